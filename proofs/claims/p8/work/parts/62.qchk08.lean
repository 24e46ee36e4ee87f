theorem qk28_e : ack0 qY zIT zmcl qW qPt zMt qKH qKB qc28 qn28 6 3000 = true := by decide +kernel
theorem qk28_0 : qn28_0.all (ackN qY zIT zmcl qW qPt zMt qKH qKB qc28 qn28 6 3000) = true := by decide +kernel
theorem qk29_e : ack0 qY zIT zmcl qW qPt zMt qKH qKB qc29 qn29 6 3000 = true := by decide +kernel
theorem qk29_0 : qn29_0.all (ackN qY zIT zmcl qW qPt zMt qKH qKB qc29 qn29 6 3000) = true := by decide +kernel
theorem qk30_e : ack0 qY zIT zmcl qW qPt zMt qKH qKB qc30 qn30 6 3000 = true := by decide +kernel
theorem qk30_0 : qn30_0.all (ackN qY zIT zmcl qW qPt zMt qKH qKB qc30 qn30 6 3000) = true := by decide +kernel
theorem qk31_e : ack0 qY zIT zmcl qW qPt zMt qKH qKB qc31 qn31 6 3000 = true := by decide +kernel
theorem qk31_0 : qn31_0.all (ackN qY zIT zmcl qW qPt zMt qKH qKB qc31 qn31 6 3000) = true := by decide +kernel
theorem qk32_e : ack0 qY zIT zmcl qW qPt zMt qKH qKB qc32 qn32 6 3000 = true := by decide +kernel
theorem qk32_0 : qn32_0.all (ackN qY zIT zmcl qW qPt zMt qKH qKB qc32 qn32 6 3000) = true := by decide +kernel
theorem qk33_e : ack0 qY zIT zmcl qW qPt zMt qKH qKB qc33 qn33 6 3000 = true := by decide +kernel
theorem qk33_0 : qn33_0.all (ackN qY zIT zmcl qW qPt zMt qKH qKB qc33 qn33 6 3000) = true := by decide +kernel
theorem qk34_e : ack0 qY zIT zmcl qW qPt zMt qKH qKB qc34 qn34 6 3000 = true := by decide +kernel
theorem qk34_0 : qn34_0.all (ackN qY zIT zmcl qW qPt zMt qKH qKB qc34 qn34 6 3000) = true := by decide +kernel
