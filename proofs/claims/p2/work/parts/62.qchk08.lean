theorem qk85_e : ack0 qY zIT zmcl qW qPt zMt qKH qKB qc85 qn85 6 3000 = true := by decide +kernel
theorem qk85_0 : qn85_0.all (ackN qY zIT zmcl qW qPt zMt qKH qKB qc85 qn85 6 3000) = true := by decide +kernel
theorem qk86_e : ack0 qY zIT zmcl qW qPt zMt qKH qKB qc86 qn86 6 3000 = true := by decide +kernel
theorem qk86_0 : qn86_0.all (ackN qY zIT zmcl qW qPt zMt qKH qKB qc86 qn86 6 3000) = true := by decide +kernel
theorem qk87_e : ack0 qY zIT zmcl qW qPt zMt qKH qKB qc87 qn87 6 3000 = true := by decide +kernel
theorem qk87_0 : qn87_0.all (ackN qY zIT zmcl qW qPt zMt qKH qKB qc87 qn87 6 3000) = true := by decide +kernel
theorem qk88_e : ack0 qY zIT zmcl qW qPt zMt qKH qKB qc88 qn88 6 3000 = true := by decide +kernel
theorem qk88_0 : qn88_0.all (ackN qY zIT zmcl qW qPt zMt qKH qKB qc88 qn88 6 3000) = true := by decide +kernel
theorem qk89_e : ack0 qY zIT zmcl qW qPt zMt qKH qKB qc89 qn89 6 3000 = true := by decide +kernel
theorem qk89_0 : qn89_0.all (ackN qY zIT zmcl qW qPt zMt qKH qKB qc89 qn89 6 3000) = true := by decide +kernel
theorem qk90_e : ack0 qY zIT zmcl qW qPt zMt qKH qKB qc90 qn90 6 3000 = true := by decide +kernel
theorem qk90_0 : qn90_0.all (ackN qY zIT zmcl qW qPt zMt qKH qKB qc90 qn90 6 3000) = true := by decide +kernel
theorem qk91_e : ack0 qY zIT zmcl qW qPt zMt qKH qKB qc91 qn91 6 3000 = true := by decide +kernel
theorem qk91_0 : qn91_0.all (ackN qY zIT zmcl qW qPt zMt qKH qKB qc91 qn91 6 3000) = true := by decide +kernel
theorem qk92_e : ack0 qY zIT zmcl qW qPt zMt qKH qKB qc92 qn92 6 3000 = true := by decide +kernel
