theorem qk207_e : ack0 qY zIT zmcl qW qPt zMt qKH qKB qc207 qn207 6 3000 = true := by decide +kernel
theorem qk207_0 : qn207_0.all (ackN qY zIT zmcl qW qPt zMt qKH qKB qc207 qn207 6 3000) = true := by decide +kernel
theorem qk208_e : ack0 qY zIT zmcl qW qPt zMt qKH qKB qc208 qn208 6 3000 = true := by decide +kernel
theorem qk208_0 : qn208_0.all (ackN qY zIT zmcl qW qPt zMt qKH qKB qc208 qn208 6 3000) = true := by decide +kernel
theorem qk209_e : ack0 qY zIT zmcl qW qPt zMt qKH qKB qc209 qn209 6 3000 = true := by decide +kernel
theorem qk209_0 : qn209_0.all (ackN qY zIT zmcl qW qPt zMt qKH qKB qc209 qn209 6 3000) = true := by decide +kernel
theorem qk210_e : ack0 qY zIT zmcl qW qPt zMt qKH qKB qc210 qn210 6 3000 = true := by decide +kernel
theorem qk210_0 : qn210_0.all (ackN qY zIT zmcl qW qPt zMt qKH qKB qc210 qn210 6 3000) = true := by decide +kernel
theorem qk211_e : ack0 qY zIT zmcl qW qPt zMt qKH qKB qc211 qn211 6 3000 = true := by decide +kernel
theorem qk211_0 : qn211_0.all (ackN qY zIT zmcl qW qPt zMt qKH qKB qc211 qn211 6 3000) = true := by decide +kernel
theorem qk212_e : ack0 qY zIT zmcl qW qPt zMt qKH qKB qc212 qn212 6 3000 = true := by decide +kernel
theorem qk212_0 : qn212_0.all (ackN qY zIT zmcl qW qPt zMt qKH qKB qc212 qn212 6 3000) = true := by decide +kernel
