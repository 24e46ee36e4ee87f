theorem qk130_e : ack0 qY zIT zmcl qW qPt zMt qKH qKB qc130 qn130 6 3000 = true := by decide +kernel
theorem qk131_e : ack0 qY zIT zmcl qW qPt zMt qKH qKB qc131 qn131 6 3000 = true := by decide +kernel
theorem qk132_e : ack0 qY zIT zmcl qW qPt zMt qKH qKB qc132 qn132 6 3000 = true := by decide +kernel
theorem qk133_e : ack0 qY zIT zmcl qW qPt zMt qKH qKB qc133 qn133 6 3000 = true := by decide +kernel
theorem qk134_e : ack0 qY zIT zmcl qW qPt zMt qKH qKB qc134 qn134 6 3000 = true := by decide +kernel
