theorem qk139_e : ack0 qY zIT zmcl qW qPt zMt qKH qKB qc139 qn139 6 3000 = true := by decide +kernel
theorem qk140_e : ack0 qY zIT zmcl qW qPt zMt qKH qKB qc140 qn140 6 3000 = true := by decide +kernel
theorem qk141_e : ack0 qY zIT zmcl qW qPt zMt qKH qKB qc141 qn141 6 3000 = true := by decide +kernel
theorem qk142_e : ack0 qY zIT zmcl qW qPt zMt qKH qKB qc142 qn142 6 3000 = true := by decide +kernel
