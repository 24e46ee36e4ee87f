theorem qk276_e : ack0 qY zIT zmcl qW qPt zMt qKH qKB qc276 qn276 6 3000 = true := by decide +kernel
theorem qk276_0 : qn276_0.all (ackN qY zIT zmcl qW qPt zMt qKH qKB qc276 qn276 6 3000) = true := by decide +kernel
theorem qk277_e : ack0 qY zIT zmcl qW qPt zMt qKH qKB qc277 qn277 6 3000 = true := by decide +kernel
theorem qk277_0 : qn277_0.all (ackN qY zIT zmcl qW qPt zMt qKH qKB qc277 qn277 6 3000) = true := by decide +kernel
