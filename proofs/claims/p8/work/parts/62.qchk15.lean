theorem qk97_e : ack0 qY zIT zmcl qW qPt zMt qKH qKB qc97 qn97 6 3000 = true := by decide +kernel
theorem qk97_0 : qn97_0.all (ackN qY zIT zmcl qW qPt zMt qKH qKB qc97 qn97 6 3000) = true := by decide +kernel
theorem qk98_e : ack0 qY zIT zmcl qW qPt zMt qKH qKB qc98 qn98 6 3000 = true := by decide +kernel
theorem qk98_0 : qn98_0.all (ackN qY zIT zmcl qW qPt zMt qKH qKB qc98 qn98 6 3000) = true := by decide +kernel
theorem qk99_e : ack0 qY zIT zmcl qW qPt zMt qKH qKB qc99 qn99 6 3000 = true := by decide +kernel
theorem qk99_0 : qn99_0.all (ackN qY zIT zmcl qW qPt zMt qKH qKB qc99 qn99 6 3000) = true := by decide +kernel
theorem qk100_e : ack0 qY zIT zmcl qW qPt zMt qKH qKB qc100 qn100 6 3000 = true := by decide +kernel
theorem qk100_0 : qn100_0.all (ackN qY zIT zmcl qW qPt zMt qKH qKB qc100 qn100 6 3000) = true := by decide +kernel
theorem qk101_e : ack0 qY zIT zmcl qW qPt zMt qKH qKB qc101 qn101 6 3000 = true := by decide +kernel
theorem qk101_0 : qn101_0.all (ackN qY zIT zmcl qW qPt zMt qKH qKB qc101 qn101 6 3000) = true := by decide +kernel
