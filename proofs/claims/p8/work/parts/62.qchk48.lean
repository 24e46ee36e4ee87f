theorem qk244_e : ack0 qY zIT zmcl qW qPt zMt qKH qKB qc244 qn244 6 3000 = true := by decide +kernel
theorem qk245_e : ack0 qY zIT zmcl qW qPt zMt qKH qKB qc245 qn245 6 3000 = true := by decide +kernel
theorem qk245_0 : qn245_0.all (ackN qY zIT zmcl qW qPt zMt qKH qKB qc245 qn245 6 3000) = true := by decide +kernel
theorem qk246_e : ack0 qY zIT zmcl qW qPt zMt qKH qKB qc246 qn246 6 3000 = true := by decide +kernel
theorem qk246_0 : qn246_0.all (ackN qY zIT zmcl qW qPt zMt qKH qKB qc246 qn246 6 3000) = true := by decide +kernel
theorem qk247_e : ack0 qY zIT zmcl qW qPt zMt qKH qKB qc247 qn247 6 3000 = true := by decide +kernel
theorem qk248_e : ack0 qY zIT zmcl qW qPt zMt qKH qKB qc248 qn248 6 3000 = true := by decide +kernel
theorem qk249_e : ack0 qY zIT zmcl qW qPt zMt qKH qKB qc249 qn249 6 3000 = true := by decide +kernel
theorem qk249_0 : qn249_0.all (ackN qY zIT zmcl qW qPt zMt qKH qKB qc249 qn249 6 3000) = true := by decide +kernel
theorem qk250_e : ack0 qY zIT zmcl qW qPt zMt qKH qKB qc250 qn250 6 3000 = true := by decide +kernel
theorem qk250_0 : qn250_0.all (ackN qY zIT zmcl qW qPt zMt qKH qKB qc250 qn250 6 3000) = true := by decide +kernel
