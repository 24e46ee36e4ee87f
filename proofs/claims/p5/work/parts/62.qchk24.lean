theorem qk128_e : ack0 qY zIT zmcl qW qPt zMt qKH qKB qc128 qn128 6 3000 = true := by decide +kernel
theorem qk129_e : ack0 qY zIT zmcl qW qPt zMt qKH qKB qc129 qn129 6 3000 = true := by decide +kernel
theorem qk130_e : ack0 qY zIT zmcl qW qPt zMt qKH qKB qc130 qn130 6 3000 = true := by decide +kernel
theorem qk131_e : ack0 qY zIT zmcl qW qPt zMt qKH qKB qc131 qn131 6 3000 = true := by decide +kernel
theorem qk132_e : ack0 qY zIT zmcl qW qPt zMt qKH qKB qc132 qn132 6 3000 = true := by decide +kernel
