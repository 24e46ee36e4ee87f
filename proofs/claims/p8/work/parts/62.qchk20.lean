theorem qk129_e : ack0 qY zIT zmcl qW qPt zMt qKH qKB qc129 qn129 6 3000 = true := by decide +kernel
