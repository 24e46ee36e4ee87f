theorem qk160_e : ack0 qY zIT zmcl qW qPt zMt qKH qKB qc160 qn160 6 3000 = true := by decide +kernel
theorem qk161_e : ack0 qY zIT zmcl qW qPt zMt qKH qKB qc161 qn161 6 3000 = true := by decide +kernel
theorem qk162_e : ack0 qY zIT zmcl qW qPt zMt qKH qKB qc162 qn162 6 3000 = true := by decide +kernel
theorem qk163_e : ack0 qY zIT zmcl qW qPt zMt qKH qKB qc163 qn163 6 3000 = true := by decide +kernel
theorem qk164_e : ack0 qY zIT zmcl qW qPt zMt qKH qKB qc164 qn164 6 3000 = true := by decide +kernel
theorem qk165_e : ack0 qY zIT zmcl qW qPt zMt qKH qKB qc165 qn165 6 3000 = true := by decide +kernel
theorem qk166_e : ack0 qY zIT zmcl qW qPt zMt qKH qKB qc166 qn166 6 3000 = true := by decide +kernel
theorem qk166_0 : qn166_0.all (ackN qY zIT zmcl qW qPt zMt qKH qKB qc166 qn166 6 3000) = true := by decide +kernel
