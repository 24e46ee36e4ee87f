theorem qk230_e : ack0 qY zIT zmcl qW qPt zMt qKH qKB qc230 qn230 6 3000 = true := by decide +kernel
theorem qk230_0 : qn230_0.all (ackN qY zIT zmcl qW qPt zMt qKH qKB qc230 qn230 6 3000) = true := by decide +kernel
theorem qk230_1 : qn230_1.all (ackN qY zIT zmcl qW qPt zMt qKH qKB qc230 qn230 6 3000) = true := by decide +kernel
theorem qk230_2 : qn230_2.all (ackN qY zIT zmcl qW qPt zMt qKH qKB qc230 qn230 6 3000) = true := by decide +kernel
theorem qk230_3 : qn230_3.all (ackN qY zIT zmcl qW qPt zMt qKH qKB qc230 qn230 6 3000) = true := by decide +kernel
