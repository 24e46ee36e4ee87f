/-! Joined: 62.qchk13, 62.qchk14, 62.qchk15. -/
section
theorem qk91_e : ack0 qY zIT zmcl qW qPt zMt qK0 qKA qc91 qn91 6 3000 = true := by decide +kernel
end
section
theorem qk92_e : ack0 qY zIT zmcl qW qPt zMt qK0 qKA qc92 qn92 6 3000 = true := by decide +kernel
theorem qk93_e : ack0 qY zIT zmcl qW qPt zMt qK0 qKA qc93 qn93 6 3000 = true := by decide +kernel
theorem qk95_e : ack0 qY zIT zmcl qW qPt zMt qKH qKB qc95 qn95 6 3000 = true := by decide +kernel
theorem qk95_0 : qn95_0.all (ackN qY zIT zmcl qW qPt zMt qKH qKB qc95 qn95 6 3000) = true := by decide +kernel
theorem qk96_e : ack0 qY zIT zmcl qW qPt zMt qKH qKB qc96 qn96 6 3000 = true := by decide +kernel
theorem qk96_0 : qn96_0.all (ackN qY zIT zmcl qW qPt zMt qKH qKB qc96 qn96 6 3000) = true := by decide +kernel
end
section
theorem qk97_e : ack0 qY zIT zmcl qW qPt zMt qKH qKB qc97 qn97 6 3000 = true := by decide +kernel
theorem qk97_0 : qn97_0.all (ackN qY zIT zmcl qW qPt zMt qKH qKB qc97 qn97 6 3000) = true := by decide +kernel
theorem qk98_e : ack0 qY zIT zmcl qW qPt zMt qKH qKB qc98 qn98 6 3000 = true := by decide +kernel
theorem qk98_0 : qn98_0.all (ackN qY zIT zmcl qW qPt zMt qKH qKB qc98 qn98 6 3000) = true := by decide +kernel
theorem qk99_e : ack0 qY zIT zmcl qW qPt zMt qKH qKB qc99 qn99 6 3000 = true := by decide +kernel
theorem qk99_0 : qn99_0.all (ackN qY zIT zmcl qW qPt zMt qKH qKB qc99 qn99 6 3000) = true := by decide +kernel
theorem qk100_e : ack0 qY zIT zmcl qW qPt zMt qKH qKB qc100 qn100 6 3000 = true := by decide +kernel
theorem qk100_0 : qn100_0.all (ackN qY zIT zmcl qW qPt zMt qKH qKB qc100 qn100 6 3000) = true := by decide +kernel
theorem qk101_e : ack0 qY zIT zmcl qW qPt zMt qKH qKB qc101 qn101 6 3000 = true := by decide +kernel
theorem qk101_0 : qn101_0.all (ackN qY zIT zmcl qW qPt zMt qKH qKB qc101 qn101 6 3000) = true := by decide +kernel
end
