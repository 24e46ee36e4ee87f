theorem qk160_e : ack0 qY zIT zmcl qW qPt zMt qKH qKB qc160 qn160 12 3000 = true := by decide +kernel
theorem qk161_e : ack0 qY zIT zmcl qW qPt zMt qKH qKB qc161 qn161 12 3000 = true := by decide +kernel
theorem qk162_e : ack0 qY zIT zmcl qW qPt zMt qKH qKB qc162 qn162 12 3000 = true := by decide +kernel
theorem qk163_e : ack0 qY zIT zmcl qW qPt zMt qKH qKB qc163 qn163 12 3000 = true := by decide +kernel
theorem qk164_e : ack0 qY zIT zmcl qW qPt zMt qKH qKB qc164 qn164 12 3000 = true := by decide +kernel
theorem qk165_e : ack0 qY zIT zmcl qW qPt zMt qKH qKB qc165 qn165 12 3000 = true := by decide +kernel
theorem qk166_e : ack0 qY zIT zmcl qW qPt zMt qKH qKB qc166 qn166 12 3000 = true := by decide +kernel
theorem qk166_0 : qn166_0.all (ackN qY zIT zmcl qW qPt zMt qKH qKB qc166 qn166 12 3000) = true := by decide +kernel
theorem qk167_e : ack0 qY zIT zmcl qW qPt zMt qKH qKB qc167 qn167 12 3000 = true := by decide +kernel
theorem qk167_0 : qn167_0.all (ackN qY zIT zmcl qW qPt zMt qKH qKB qc167 qn167 12 3000) = true := by decide +kernel
theorem qk168_e : ack0 qY zIT zmcl qW qPt zMt qKH qKB qc168 qn168 12 3000 = true := by decide +kernel
theorem qk168_0 : qn168_0.all (ackN qY zIT zmcl qW qPt zMt qKH qKB qc168 qn168 12 3000) = true := by decide +kernel
theorem qk169_e : ack0 qY zIT zmcl qW qPt zMt qKH qKB qc169 qn169 12 3000 = true := by decide +kernel
theorem qk170_e : ack0 qY zIT zmcl qW qPt zMt qKH qKB qc170 qn170 12 3000 = true := by decide +kernel
theorem qk170_0 : qn170_0.all (ackN qY zIT zmcl qW qPt zMt qKH qKB qc170 qn170 12 3000) = true := by decide +kernel
theorem qk171_e : ack0 qY zIT zmcl qW qPt zMt qKH qKB qc171 qn171 12 3000 = true := by decide +kernel
theorem qk171_0 : qn171_0.all (ackN qY zIT zmcl qW qPt zMt qKH qKB qc171 qn171 12 3000) = true := by decide +kernel
theorem qk172_e : ack0 qY zIT zmcl qW qPt zMt qKH qKB qc172 qn172 12 3000 = true := by decide +kernel
theorem qk172_0 : qn172_0.all (ackN qY zIT zmcl qW qPt zMt qKH qKB qc172 qn172 12 3000) = true := by decide +kernel
