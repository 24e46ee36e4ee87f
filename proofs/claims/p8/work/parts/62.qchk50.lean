theorem qk257_e : ack0 qY zIT zmcl qW qPt zMt qKH qKB qc257 qn257 6 3000 = true := by decide +kernel
theorem qk257_0 : qn257_0.all (ackN qY zIT zmcl qW qPt zMt qKH qKB qc257 qn257 6 3000) = true := by decide +kernel
theorem qk258_e : ack0 qY zIT zmcl qW qPt zMt qKH qKB qc258 qn258 6 3000 = true := by decide +kernel
theorem qk258_0 : qn258_0.all (ackN qY zIT zmcl qW qPt zMt qKH qKB qc258 qn258 6 3000) = true := by decide +kernel
theorem qk259_e : ack0 qY zIT zmcl qW qPt zMt qKH qKB qc259 qn259 6 3000 = true := by decide +kernel
theorem qk259_0 : qn259_0.all (ackN qY zIT zmcl qW qPt zMt qKH qKB qc259 qn259 6 3000) = true := by decide +kernel
theorem qk260_e : ack0 qY zIT zmcl qW qPt zMt qKH qKB qc260 qn260 6 3000 = true := by decide +kernel
theorem qk260_0 : qn260_0.all (ackN qY zIT zmcl qW qPt zMt qKH qKB qc260 qn260 6 3000) = true := by decide +kernel
theorem qk261_e : ack0 qY zIT zmcl qW qPt zMt qKH qKB qc261 qn261 6 3000 = true := by decide +kernel
theorem qk261_0 : qn261_0.all (ackN qY zIT zmcl qW qPt zMt qKH qKB qc261 qn261 6 3000) = true := by decide +kernel
theorem qk262_e : ack0 qY zIT zmcl qW qPt zMt qKH qKB qc262 qn262 6 3000 = true := by decide +kernel
theorem qk262_0 : qn262_0.all (ackN qY zIT zmcl qW qPt zMt qKH qKB qc262 qn262 6 3000) = true := by decide +kernel
theorem qk263_e : ack0 qY zIT zmcl qW qPt zMt qKH qKB qc263 qn263 6 3000 = true := by decide +kernel
theorem qk263_0 : qn263_0.all (ackN qY zIT zmcl qW qPt zMt qKH qKB qc263 qn263 6 3000) = true := by decide +kernel
