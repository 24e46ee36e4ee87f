theorem qk238_e : ack0 qY zIT zmcl qW qPt zMt qKH qKB qc238 qn238 6 3000 = true := by decide +kernel
theorem qk239_e : ack0 qY zIT zmcl qW qPt zMt qKH qKB qc239 qn239 6 3000 = true := by decide +kernel
theorem qk240_e : ack0 qY zIT zmcl qW qPt zMt qKH qKB qc240 qn240 6 3000 = true := by decide +kernel
theorem qk241_e : ack0 qY zIT zmcl qW qPt zMt qKH qKB qc241 qn241 6 3000 = true := by decide +kernel
theorem qk242_e : ack0 qY zIT zmcl qW qPt zMt qKH qKB qc242 qn242 6 3000 = true := by decide +kernel
theorem qk243_e : ack0 qY zIT zmcl qW qPt zMt qKH qKB qc243 qn243 6 3000 = true := by decide +kernel
theorem qk243_0 : qn243_0.all (ackN qY zIT zmcl qW qPt zMt qKH qKB qc243 qn243 6 3000) = true := by decide +kernel
