theorem qk200_e : ack0 qY zIT zmcl qW qPt zMt qKH qKB qc200 qn200 6 3000 = true := by decide +kernel
theorem qk201_e : ack0 qY zIT zmcl qW qPt zMt qKH qKB qc201 qn201 6 3000 = true := by decide +kernel
theorem qk202_e : ack0 qY zIT zmcl qW qPt zMt qKH qKB qc202 qn202 6 3000 = true := by decide +kernel
theorem qk203_e : ack0 qY zIT zmcl qW qPt zMt qKH qKB qc203 qn203 6 3000 = true := by decide +kernel
theorem qk204_e : ack0 qY zIT zmcl qW qPt zMt qKH qKB qc204 qn204 6 3000 = true := by decide +kernel
theorem qk205_e : ack0 qY zIT zmcl qW qPt zMt qKH qKB qc205 qn205 6 3000 = true := by decide +kernel
theorem qk206_e : ack0 qY zIT zmcl qW qPt zMt qKH qKB qc206 qn206 6 3000 = true := by decide +kernel
theorem qk206_0 : qn206_0.all (ackN qY zIT zmcl qW qPt zMt qKH qKB qc206 qn206 6 3000) = true := by decide +kernel
