theorem qk29_e : ack0 qY zIT zmcl qW qPt zMt qKH qKB qc29 qn29 6 3000 = true := by decide +kernel
theorem qk30_e : ack0 qY zIT zmcl qW qPt zMt qKH qKB qc30 qn30 6 3000 = true := by decide +kernel
theorem qk31_e : ack0 qY zIT zmcl qW qPt zMt qKH qKB qc31 qn31 6 3000 = true := by decide +kernel
theorem qk32_e : ack0 qY zIT zmcl qW qPt zMt qKH qKB qc32 qn32 6 3000 = true := by decide +kernel
theorem qk33_e : ack0 qY zIT zmcl qW qPt zMt qKH qKB qc33 qn33 6 3000 = true := by decide +kernel
theorem qk34_e : ack0 qY zIT zmcl qW qPt zMt qKH qKB qc34 qn34 6 3000 = true := by decide +kernel
theorem qk35_e : ack0 qY zIT zmcl qW qPt zMt qKH qKB qc35 qn35 6 3000 = true := by decide +kernel
theorem qk36_e : ack0 qY zIT zmcl qW qPt zMt qKH qKB qc36 qn36 6 3000 = true := by decide +kernel
theorem qk36_0 : qn36_0.all (ackN qY zIT zmcl qW qPt zMt qKH qKB qc36 qn36 6 3000) = true := by decide +kernel
theorem qk37_e : ack0 qY zIT zmcl qW qPt zMt qKH qKB qc37 qn37 6 3000 = true := by decide +kernel
theorem qk37_0 : qn37_0.all (ackN qY zIT zmcl qW qPt zMt qKH qKB qc37 qn37 6 3000) = true := by decide +kernel
