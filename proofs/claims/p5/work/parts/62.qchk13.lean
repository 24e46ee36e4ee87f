theorem qk87_e : ack0 qY zIT zmcl qW qPt zMt qKH qKB qc87 qn87 6 3000 = true := by decide +kernel
theorem qk87_0 : qn87_0.all (ackN qY zIT zmcl qW qPt zMt qKH qKB qc87 qn87 6 3000) = true := by decide +kernel
theorem qk88_e : ack0 qY zIT zmcl qW qPt zMt qKH qKB qc88 qn88 6 3000 = true := by decide +kernel
theorem qk88_0 : qn88_0.all (ackN qY zIT zmcl qW qPt zMt qKH qKB qc88 qn88 6 3000) = true := by decide +kernel
theorem qk89_e : ack0 qY zIT zmcl qW qPt zMt qKH qKB qc89 qn89 6 3000 = true := by decide +kernel
theorem qk89_0 : qn89_0.all (ackN qY zIT zmcl qW qPt zMt qKH qKB qc89 qn89 6 3000) = true := by decide +kernel
theorem qk90_e : ack0 qY zIT zmcl qW qPt zMt qKH qKB qc90 qn90 6 3000 = true := by decide +kernel
theorem qk90_0 : qn90_0.all (ackN qY zIT zmcl qW qPt zMt qKH qKB qc90 qn90 6 3000) = true := by decide +kernel
theorem qk91_e : ack0 qY zIT zmcl qW qPt zMt qKH qKB qc91 qn91 6 3000 = true := by decide +kernel
theorem qk91_0 : qn91_0.all (ackN qY zIT zmcl qW qPt zMt qKH qKB qc91 qn91 6 3000) = true := by decide +kernel
theorem qk92_e : ack0 qY zIT zmcl qW qPt zMt qKH qKB qc92 qn92 6 3000 = true := by decide +kernel
theorem qk93_e : ack0 qY zIT zmcl qW qPt zMt qKH qKB qc93 qn93 6 3000 = true := by decide +kernel
theorem qk94_e : ack0 qY zIT zmcl qW qPt zMt qKH qKB qc94 qn94 6 3000 = true := by decide +kernel
theorem qk94_0 : qn94_0.all (ackN qY zIT zmcl qW qPt zMt qKH qKB qc94 qn94 6 3000) = true := by decide +kernel
theorem qk95_e : ack0 qY zIT zmcl qW qPt zMt qKH qKB qc95 qn95 6 3000 = true := by decide +kernel
theorem qk96_e : ack0 qY zIT zmcl qW qPt zMt qKH qKB qc96 qn96 6 3000 = true := by decide +kernel
theorem qk97_e : ack0 qY zIT zmcl qW qPt zMt qKH qKB qc97 qn97 6 3000 = true := by decide +kernel
theorem qk97_0 : qn97_0.all (ackN qY zIT zmcl qW qPt zMt qKH qKB qc97 qn97 6 3000) = true := by decide +kernel
theorem qk98_e : ack0 qY zIT zmcl qW qPt zMt qKH qKB qc98 qn98 6 3000 = true := by decide +kernel
