theorem qk152_e : ack0 qY zIT zmcl qW qPt zMt qKH qKB qc152 qn152 6 3000 = true := by decide +kernel
theorem qk153_e : ack0 qY zIT zmcl qW qPt zMt qKH qKB qc153 qn153 6 3000 = true := by decide +kernel
theorem qk153_0 : qn153_0.all (ackN qY zIT zmcl qW qPt zMt qKH qKB qc153 qn153 6 3000) = true := by decide +kernel
theorem qk154_e : ack0 qY zIT zmcl qW qPt zMt qKH qKB qc154 qn154 6 3000 = true := by decide +kernel
theorem qk154_0 : qn154_0.all (ackN qY zIT zmcl qW qPt zMt qKH qKB qc154 qn154 6 3000) = true := by decide +kernel
theorem qk155_e : ack0 qY zIT zmcl qW qPt zMt qKH qKB qc155 qn155 6 3000 = true := by decide +kernel
theorem qk155_0 : qn155_0.all (ackN qY zIT zmcl qW qPt zMt qKH qKB qc155 qn155 6 3000) = true := by decide +kernel
theorem qk156_e : ack0 qY zIT zmcl qW qPt zMt qKH qKB qc156 qn156 6 3000 = true := by decide +kernel
theorem qk157_e : ack0 qY zIT zmcl qW qPt zMt qKH qKB qc157 qn157 6 3000 = true := by decide +kernel
theorem qk158_e : ack0 qY zIT zmcl qW qPt zMt qKH qKB qc158 qn158 6 3000 = true := by decide +kernel
theorem qk159_e : ack0 qY zIT zmcl qW qPt zMt qKH qKB qc159 qn159 6 3000 = true := by decide +kernel
theorem qk159_0 : qn159_0.all (ackN qY zIT zmcl qW qPt zMt qKH qKB qc159 qn159 6 3000) = true := by decide +kernel
theorem qk160_e : ack0 qY zIT zmcl qW qPt zMt qKH qKB qc160 qn160 6 3000 = true := by decide +kernel
theorem qk161_e : ack0 qY zIT zmcl qW qPt zMt qKH qKB qc161 qn161 6 3000 = true := by decide +kernel
theorem qk162_e : ack0 qY zIT zmcl qW qPt zMt qKH qKB qc162 qn162 6 3000 = true := by decide +kernel
