theorem qk230_16 : qn230_16.all (ackN qY zIT zmcl qW qPt zMt qKH qKB qc230 qn230 6 3000) = true := by decide +kernel
theorem qk230_17 : qn230_17.all (ackN qY zIT zmcl qW qPt zMt qKH qKB qc230 qn230 6 3000) = true := by decide +kernel
