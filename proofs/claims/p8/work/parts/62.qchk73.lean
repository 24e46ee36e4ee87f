theorem qk57_e : ack0 qY zIT zmcl qW qPt zMt qKH qKB qc57 qn57 6 3000 = true := by decide +kernel
