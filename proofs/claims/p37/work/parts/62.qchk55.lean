/-! Joined: 62.qchk55, 62.qchk56. -/
section
theorem qk278_e : ack0 qY zIT zmcl qW qPt zMt qKH qKB qc278 qn278 6 3000 = true := by decide +kernel
theorem qk278_0 : qn278_0.all (ackN qY zIT zmcl qW qPt zMt qKH qKB qc278 qn278 6 3000) = true := by decide +kernel
theorem qk278_1 : qn278_1.all (ackN qY zIT zmcl qW qPt zMt qKH qKB qc278 qn278 6 3000) = true := by decide +kernel
theorem qk279_e : ack0 qY zIT zmcl qW qPt zMt qKH qKB qc279 qn279 6 3000 = true := by decide +kernel
theorem qk279_0 : qn279_0.all (ackN qY zIT zmcl qW qPt zMt qKH qKB qc279 qn279 6 3000) = true := by decide +kernel
end
section
theorem qk280_e : ack0 qY zIT zmcl qW qPt zMt qKH qKB qc280 qn280 6 3000 = true := by decide +kernel
theorem qk280_0 : qn280_0.all (ackN qY zIT zmcl qW qPt zMt qKH qKB qc280 qn280 6 3000) = true := by decide +kernel
end
