theorem qk26_e : ack0 qY zIT zmcl qW qPt zMt qKH qKB qc26 qn26 6 3000 = true := by decide +kernel
theorem qk27_e : ack0 qY zIT zmcl qW qPt zMt qKH qKB qc27 qn27 6 3000 = true := by decide +kernel
