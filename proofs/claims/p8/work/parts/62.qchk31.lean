theorem qk163_e : ack0 qY zIT zmcl qW qPt zMt qKH qKB qc163 qn163 6 3000 = true := by decide +kernel
theorem qk164_e : ack0 qY zIT zmcl qW qPt zMt qKH qKB qc164 qn164 6 3000 = true := by decide +kernel
theorem qk165_e : ack0 qY zIT zmcl qW qPt zMt qKH qKB qc165 qn165 6 3000 = true := by decide +kernel
theorem qk166_e : ack0 qY zIT zmcl qW qPt zMt qKH qKB qc166 qn166 6 3000 = true := by decide +kernel
