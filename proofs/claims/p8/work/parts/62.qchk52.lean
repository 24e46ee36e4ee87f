theorem qk270_e : ack0 qY zIT zmcl qW qPt zMt qKH qKB qc270 qn270 6 3000 = true := by decide +kernel
theorem qk270_0 : qn270_0.all (ackN qY zIT zmcl qW qPt zMt qKH qKB qc270 qn270 6 3000) = true := by decide +kernel
theorem qk271_e : ack0 qY zIT zmcl qW qPt zMt qKH qKB qc271 qn271 6 3000 = true := by decide +kernel
theorem qk271_0 : qn271_0.all (ackN qY zIT zmcl qW qPt zMt qKH qKB qc271 qn271 6 3000) = true := by decide +kernel
theorem qk272_e : ack0 qY zIT zmcl qW qPt zMt qKH qKB qc272 qn272 6 3000 = true := by decide +kernel
theorem qk272_0 : qn272_0.all (ackN qY zIT zmcl qW qPt zMt qKH qKB qc272 qn272 6 3000) = true := by decide +kernel
theorem qk273_e : ack0 qY zIT zmcl qW qPt zMt qKH qKB qc273 qn273 6 3000 = true := by decide +kernel
theorem qk273_0 : qn273_0.all (ackN qY zIT zmcl qW qPt zMt qKH qKB qc273 qn273 6 3000) = true := by decide +kernel
theorem qk274_e : ack0 qY zIT zmcl qW qPt zMt qKH qKB qc274 qn274 6 3000 = true := by decide +kernel
