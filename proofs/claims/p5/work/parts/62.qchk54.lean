theorem qk230_28 : qn230_28.all (ackN qY zIT zmcl qW qPt zMt qKH qKB qc230 qn230 6 3000) = true := by decide +kernel
theorem qk230_29 : qn230_29.all (ackN qY zIT zmcl qW qPt zMt qKH qKB qc230 qn230 6 3000) = true := by decide +kernel
