theorem qk78_e : ack0 qY zIT zmcl qW qPt zMt qK0 qKA qc78 qn78 12 3000 = true := by decide +kernel
theorem qk79_e : ack0 qY zIT zmcl qW qPt zMt qK0 qKA qc79 qn79 12 3000 = true := by decide +kernel
theorem qk81_e : ack0 qY zIT zmcl qW qPt zMt qKH qKB qc81 qn81 12 3000 = true := by decide +kernel
theorem qk81_0 : qn81_0.all (ackN qY zIT zmcl qW qPt zMt qKH qKB qc81 qn81 12 3000) = true := by decide +kernel
theorem qk82_e : ack0 qY zIT zmcl qW qPt zMt qKH qKB qc82 qn82 12 3000 = true := by decide +kernel
theorem qk82_0 : qn82_0.all (ackN qY zIT zmcl qW qPt zMt qKH qKB qc82 qn82 12 3000) = true := by decide +kernel
theorem qk83_e : ack0 qY zIT zmcl qW qPt zMt qKH qKB qc83 qn83 12 3000 = true := by decide +kernel
theorem qk83_0 : qn83_0.all (ackN qY zIT zmcl qW qPt zMt qKH qKB qc83 qn83 12 3000) = true := by decide +kernel
theorem qk84_e : ack0 qY zIT zmcl qW qPt zMt qKH qKB qc84 qn84 12 3000 = true := by decide +kernel
theorem qk85_e : ack0 qY zIT zmcl qW qPt zMt qKH qKB qc85 qn85 12 3000 = true := by decide +kernel
theorem qk85_0 : qn85_0.all (ackN qY zIT zmcl qW qPt zMt qKH qKB qc85 qn85 12 3000) = true := by decide +kernel
theorem qk86_e : ack0 qY zIT zmcl qW qPt zMt qKH qKB qc86 qn86 12 3000 = true := by decide +kernel
theorem qk86_0 : qn86_0.all (ackN qY zIT zmcl qW qPt zMt qKH qKB qc86 qn86 12 3000) = true := by decide +kernel
theorem qk87_e : ack0 qY zIT zmcl qW qPt zMt qKH qKB qc87 qn87 12 3000 = true := by decide +kernel
theorem qk87_0 : qn87_0.all (ackN qY zIT zmcl qW qPt zMt qKH qKB qc87 qn87 12 3000) = true := by decide +kernel
theorem qk88_e : ack0 qY zIT zmcl qW qPt zMt qKH qKB qc88 qn88 12 3000 = true := by decide +kernel
theorem qk88_0 : qn88_0.all (ackN qY zIT zmcl qW qPt zMt qKH qKB qc88 qn88 12 3000) = true := by decide +kernel
theorem qk89_e : ack0 qY zIT zmcl qW qPt zMt qKH qKB qc89 qn89 12 3000 = true := by decide +kernel
theorem qk89_0 : qn89_0.all (ackN qY zIT zmcl qW qPt zMt qKH qKB qc89 qn89 12 3000) = true := by decide +kernel
theorem qk90_e : ack0 qY zIT zmcl qW qPt zMt qKH qKB qc90 qn90 12 3000 = true := by decide +kernel
theorem qk90_0 : qn90_0.all (ackN qY zIT zmcl qW qPt zMt qKH qKB qc90 qn90 12 3000) = true := by decide +kernel
theorem qk91_e : ack0 qY zIT zmcl qW qPt zMt qKH qKB qc91 qn91 12 3000 = true := by decide +kernel
theorem qk91_0 : qn91_0.all (ackN qY zIT zmcl qW qPt zMt qKH qKB qc91 qn91 12 3000) = true := by decide +kernel
theorem qk92_e : ack0 qY zIT zmcl qW qPt zMt qKH qKB qc92 qn92 12 3000 = true := by decide +kernel
theorem qk93_e : ack0 qY zIT zmcl qW qPt zMt qKH qKB qc93 qn93 12 3000 = true := by decide +kernel
theorem qk94_e : ack0 qY zIT zmcl qW qPt zMt qKH qKB qc94 qn94 12 3000 = true := by decide +kernel
theorem qk94_0 : qn94_0.all (ackN qY zIT zmcl qW qPt zMt qKH qKB qc94 qn94 12 3000) = true := by decide +kernel
theorem qk95_e : ack0 qY zIT zmcl qW qPt zMt qKH qKB qc95 qn95 12 3000 = true := by decide +kernel
