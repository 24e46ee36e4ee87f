theorem qk92_e : ack0 qY zIT zmcl qW qPt zMt qK0 qKA qc92 qn92 6 3000 = true := by decide +kernel
theorem qk93_e : ack0 qY zIT zmcl qW qPt zMt qK0 qKA qc93 qn93 6 3000 = true := by decide +kernel
theorem qk95_e : ack0 qY zIT zmcl qW qPt zMt qKH qKB qc95 qn95 6 3000 = true := by decide +kernel
theorem qk95_0 : qn95_0.all (ackN qY zIT zmcl qW qPt zMt qKH qKB qc95 qn95 6 3000) = true := by decide +kernel
theorem qk96_e : ack0 qY zIT zmcl qW qPt zMt qKH qKB qc96 qn96 6 3000 = true := by decide +kernel
theorem qk96_0 : qn96_0.all (ackN qY zIT zmcl qW qPt zMt qKH qKB qc96 qn96 6 3000) = true := by decide +kernel
