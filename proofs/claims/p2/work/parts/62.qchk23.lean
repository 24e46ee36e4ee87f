theorem qk201_e : ack0 qY zIT zmcl qW qPt zMt qKH qKB qc201 qn201 12 3000 = true := by decide +kernel
theorem qk202_e : ack0 qY zIT zmcl qW qPt zMt qKH qKB qc202 qn202 12 3000 = true := by decide +kernel
theorem qk203_e : ack0 qY zIT zmcl qW qPt zMt qKH qKB qc203 qn203 12 3000 = true := by decide +kernel
theorem qk203_0 : qn203_0.all (ackN qY zIT zmcl qW qPt zMt qKH qKB qc203 qn203 12 3000) = true := by decide +kernel
theorem qk204_e : ack0 qY zIT zmcl qW qPt zMt qKH qKB qc204 qn204 12 3000 = true := by decide +kernel
theorem qk204_0 : qn204_0.all (ackN qY zIT zmcl qW qPt zMt qKH qKB qc204 qn204 12 3000) = true := by decide +kernel
theorem qk205_e : ack0 qY zIT zmcl qW qPt zMt qKH qKB qc205 qn205 12 3000 = true := by decide +kernel
theorem qk205_0 : qn205_0.all (ackN qY zIT zmcl qW qPt zMt qKH qKB qc205 qn205 12 3000) = true := by decide +kernel
theorem qk206_e : ack0 qY zIT zmcl qW qPt zMt qKH qKB qc206 qn206 12 3000 = true := by decide +kernel
theorem qk206_0 : qn206_0.all (ackN qY zIT zmcl qW qPt zMt qKH qKB qc206 qn206 12 3000) = true := by decide +kernel
