theorem qk230_3 : qn230_3.all (ackN qY zIT zmcl qW qPt zMt qKH qKB qc230 qn230 6 3000) = true := by decide +kernel
theorem qk230_4 : qn230_4.all (ackN qY zIT zmcl qW qPt zMt qKH qKB qc230 qn230 6 3000) = true := by decide +kernel
