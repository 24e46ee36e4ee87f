theorem qk133_e : ack0 qY zIT zmcl qW qPt zMt qKH qKB qc133 qn133 6 3000 = true := by decide +kernel
theorem qk134_e : ack0 qY zIT zmcl qW qPt zMt qKH qKB qc134 qn134 6 3000 = true := by decide +kernel
theorem qk135_e : ack0 qY zIT zmcl qW qPt zMt qKH qKB qc135 qn135 6 3000 = true := by decide +kernel
theorem qk136_e : ack0 qY zIT zmcl qW qPt zMt qKH qKB qc136 qn136 6 3000 = true := by decide +kernel
