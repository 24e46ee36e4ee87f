theorem qk151_e : ack0 qY zIT zmcl qW qPt zMt qKH qKB qc151 qn151 6 3000 = true := by decide +kernel
theorem qk152_e : ack0 qY zIT zmcl qW qPt zMt qKH qKB qc152 qn152 6 3000 = true := by decide +kernel
theorem qk153_e : ack0 qY zIT zmcl qW qPt zMt qKH qKB qc153 qn153 6 3000 = true := by decide +kernel
theorem qk154_e : ack0 qY zIT zmcl qW qPt zMt qKH qKB qc154 qn154 6 3000 = true := by decide +kernel
theorem qk155_e : ack0 qY zIT zmcl qW qPt zMt qKH qKB qc155 qn155 6 3000 = true := by decide +kernel
theorem qk156_e : ack0 qY zIT zmcl qW qPt zMt qKH qKB qc156 qn156 6 3000 = true := by decide +kernel
theorem qk157_e : ack0 qY zIT zmcl qW qPt zMt qKH qKB qc157 qn157 6 3000 = true := by decide +kernel
theorem qk158_e : ack0 qY zIT zmcl qW qPt zMt qKH qKB qc158 qn158 6 3000 = true := by decide +kernel
theorem qk158_0 : qn158_0.all (ackN qY zIT zmcl qW qPt zMt qKH qKB qc158 qn158 6 3000) = true := by decide +kernel
