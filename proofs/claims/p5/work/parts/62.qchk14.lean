theorem qk99_e : ack0 qY zIT zmcl qW qPt zMt qKH qKB qc99 qn99 6 3000 = true := by decide +kernel
theorem qk100_e : ack0 qY zIT zmcl qW qPt zMt qKH qKB qc100 qn100 6 3000 = true := by decide +kernel
theorem qk101_e : ack0 qY zIT zmcl qW qPt zMt qKH qKB qc101 qn101 6 3000 = true := by decide +kernel
theorem qk101_0 : qn101_0.all (ackN qY zIT zmcl qW qPt zMt qKH qKB qc101 qn101 6 3000) = true := by decide +kernel
theorem qk102_e : ack0 qY zIT zmcl qW qPt zMt qKH qKB qc102 qn102 6 3000 = true := by decide +kernel
theorem qk102_0 : qn102_0.all (ackN qY zIT zmcl qW qPt zMt qKH qKB qc102 qn102 6 3000) = true := by decide +kernel
theorem qk103_e : ack0 qY zIT zmcl qW qPt zMt qKH qKB qc103 qn103 6 3000 = true := by decide +kernel
theorem qk103_0 : qn103_0.all (ackN qY zIT zmcl qW qPt zMt qKH qKB qc103 qn103 6 3000) = true := by decide +kernel
