theorem qk131_e : ack0 qY zIT zmcl qW qPt zMt qKH qKB qc131 qn131 6 3000 = true := by decide +kernel
theorem qk131_0 : qn131_0.all (ackN qY zIT zmcl qW qPt zMt qKH qKB qc131 qn131 6 3000) = true := by decide +kernel
theorem qk132_e : ack0 qY zIT zmcl qW qPt zMt qKH qKB qc132 qn132 6 3000 = true := by decide +kernel
theorem qk132_0 : qn132_0.all (ackN qY zIT zmcl qW qPt zMt qKH qKB qc132 qn132 6 3000) = true := by decide +kernel
theorem qk133_e : ack0 qY zIT zmcl qW qPt zMt qKH qKB qc133 qn133 6 3000 = true := by decide +kernel
theorem qk133_0 : qn133_0.all (ackN qY zIT zmcl qW qPt zMt qKH qKB qc133 qn133 6 3000) = true := by decide +kernel
theorem qk134_e : ack0 qY zIT zmcl qW qPt zMt qKH qKB qc134 qn134 6 3000 = true := by decide +kernel
theorem qk134_0 : qn134_0.all (ackN qY zIT zmcl qW qPt zMt qKH qKB qc134 qn134 6 3000) = true := by decide +kernel
theorem qk135_e : ack0 qY zIT zmcl qW qPt zMt qKH qKB qc135 qn135 6 3000 = true := by decide +kernel
theorem qk135_0 : qn135_0.all (ackN qY zIT zmcl qW qPt zMt qKH qKB qc135 qn135 6 3000) = true := by decide +kernel
theorem qk136_e : ack0 qY zIT zmcl qW qPt zMt qKH qKB qc136 qn136 6 3000 = true := by decide +kernel
theorem qk136_0 : qn136_0.all (ackN qY zIT zmcl qW qPt zMt qKH qKB qc136 qn136 6 3000) = true := by decide +kernel
