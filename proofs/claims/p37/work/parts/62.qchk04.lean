/-! Joined: 62.qchk04, 62.qchk05, 62.qchk06. -/
section
theorem qk17_e : ack0 qY zIT zmcl qW qPt zMt qKH qKB qc17 qn17 6 3000 = true := by decide +kernel
theorem qk17_0 : qn17_0.all (ackN qY zIT zmcl qW qPt zMt qKH qKB qc17 qn17 6 3000) = true := by decide +kernel
end
section
theorem qk18_e : ack0 qY zIT zmcl qW qPt zMt qKH qKB qc18 qn18 6 3000 = true := by decide +kernel
theorem qk18_0 : qn18_0.all (ackN qY zIT zmcl qW qPt zMt qKH qKB qc18 qn18 6 3000) = true := by decide +kernel
end
section
theorem qk19_e : ack0 qY zIT zmcl qW qPt zMt qKH qKB qc19 qn19 6 3000 = true := by decide +kernel
theorem qk19_0 : qn19_0.all (ackN qY zIT zmcl qW qPt zMt qKH qKB qc19 qn19 6 3000) = true := by decide +kernel
theorem qk20_e : ack0 qY zIT zmcl qW qPt zMt qKH qKB qc20 qn20 6 3000 = true := by decide +kernel
theorem qk20_0 : qn20_0.all (ackN qY zIT zmcl qW qPt zMt qKH qKB qc20 qn20 6 3000) = true := by decide +kernel
theorem qk21_e : ack0 qY zIT zmcl qW qPt zMt qKH qKB qc21 qn21 6 3000 = true := by decide +kernel
theorem qk21_0 : qn21_0.all (ackN qY zIT zmcl qW qPt zMt qKH qKB qc21 qn21 6 3000) = true := by decide +kernel
theorem qk22_e : ack0 qY zIT zmcl qW qPt zMt qKH qKB qc22 qn22 6 3000 = true := by decide +kernel
theorem qk22_0 : qn22_0.all (ackN qY zIT zmcl qW qPt zMt qKH qKB qc22 qn22 6 3000) = true := by decide +kernel
theorem qk23_e : ack0 qY zIT zmcl qW qPt zMt qKH qKB qc23 qn23 6 3000 = true := by decide +kernel
theorem qk23_0 : qn23_0.all (ackN qY zIT zmcl qW qPt zMt qKH qKB qc23 qn23 6 3000) = true := by decide +kernel
theorem qk24_e : ack0 qY zIT zmcl qW qPt zMt qKH qKB qc24 qn24 6 3000 = true := by decide +kernel
theorem qk24_0 : qn24_0.all (ackN qY zIT zmcl qW qPt zMt qKH qKB qc24 qn24 6 3000) = true := by decide +kernel
theorem qk25_e : ack0 qY zIT zmcl qW qPt zMt qKH qKB qc25 qn25 6 3000 = true := by decide +kernel
end
