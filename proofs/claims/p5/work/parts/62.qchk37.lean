theorem qk200_e : ack0 qY zIT zmcl qW qPt zMt qKH qKB qc200 qn200 6 3000 = true := by decide +kernel
theorem qk200_0 : qn200_0.all (ackN qY zIT zmcl qW qPt zMt qKH qKB qc200 qn200 6 3000) = true := by decide +kernel
theorem qk201_e : ack0 qY zIT zmcl qW qPt zMt qKH qKB qc201 qn201 6 3000 = true := by decide +kernel
theorem qk202_e : ack0 qY zIT zmcl qW qPt zMt qKH qKB qc202 qn202 6 3000 = true := by decide +kernel
theorem qk203_e : ack0 qY zIT zmcl qW qPt zMt qKH qKB qc203 qn203 6 3000 = true := by decide +kernel
theorem qk203_0 : qn203_0.all (ackN qY zIT zmcl qW qPt zMt qKH qKB qc203 qn203 6 3000) = true := by decide +kernel
theorem qk204_e : ack0 qY zIT zmcl qW qPt zMt qKH qKB qc204 qn204 6 3000 = true := by decide +kernel
theorem qk204_0 : qn204_0.all (ackN qY zIT zmcl qW qPt zMt qKH qKB qc204 qn204 6 3000) = true := by decide +kernel
theorem qk205_e : ack0 qY zIT zmcl qW qPt zMt qKH qKB qc205 qn205 6 3000 = true := by decide +kernel
theorem qk205_0 : qn205_0.all (ackN qY zIT zmcl qW qPt zMt qKH qKB qc205 qn205 6 3000) = true := by decide +kernel
