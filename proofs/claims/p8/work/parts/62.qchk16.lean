theorem qk102_e : ack0 qY zIT zmcl qW qPt zMt qKH qKB qc102 qn102 6 3000 = true := by decide +kernel
theorem qk102_0 : qn102_0.all (ackN qY zIT zmcl qW qPt zMt qKH qKB qc102 qn102 6 3000) = true := by decide +kernel
theorem qk103_e : ack0 qY zIT zmcl qW qPt zMt qKH qKB qc103 qn103 6 3000 = true := by decide +kernel
theorem qk103_0 : qn103_0.all (ackN qY zIT zmcl qW qPt zMt qKH qKB qc103 qn103 6 3000) = true := by decide +kernel
theorem qk104_e : ack0 qY zIT zmcl qW qPt zMt qKH qKB qc104 qn104 6 3000 = true := by decide +kernel
theorem qk104_0 : qn104_0.all (ackN qY zIT zmcl qW qPt zMt qKH qKB qc104 qn104 6 3000) = true := by decide +kernel
theorem qk105_e : ack0 qY zIT zmcl qW qPt zMt qKH qKB qc105 qn105 6 3000 = true := by decide +kernel
theorem qk105_0 : qn105_0.all (ackN qY zIT zmcl qW qPt zMt qKH qKB qc105 qn105 6 3000) = true := by decide +kernel
theorem qk106_e : ack0 qY zIT zmcl qW qPt zMt qKH qKB qc106 qn106 6 3000 = true := by decide +kernel
theorem qk107_e : ack0 qY zIT zmcl qW qPt zMt qKH qKB qc107 qn107 6 3000 = true := by decide +kernel
