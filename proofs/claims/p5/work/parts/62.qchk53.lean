theorem qk230_24 : qn230_24.all (ackN qY zIT zmcl qW qPt zMt qKH qKB qc230 qn230 6 3000) = true := by decide +kernel
theorem qk230_25 : qn230_25.all (ackN qY zIT zmcl qW qPt zMt qKH qKB qc230 qn230 6 3000) = true := by decide +kernel
theorem qk230_26 : qn230_26.all (ackN qY zIT zmcl qW qPt zMt qKH qKB qc230 qn230 6 3000) = true := by decide +kernel
theorem qk230_27 : qn230_27.all (ackN qY zIT zmcl qW qPt zMt qKH qKB qc230 qn230 6 3000) = true := by decide +kernel
