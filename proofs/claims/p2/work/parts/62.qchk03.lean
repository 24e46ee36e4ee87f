theorem qk20_e : ack0 qY zIT zmcl qW qPt zMt qKH qKB qc20 qn20 6 3000 = true := by decide +kernel
theorem qk20_0 : qn20_0.all (ackN qY zIT zmcl qW qPt zMt qKH qKB qc20 qn20 6 3000) = true := by decide +kernel
theorem qk21_e : ack0 qY zIT zmcl qW qPt zMt qKH qKB qc21 qn21 6 3000 = true := by decide +kernel
theorem qk21_0 : qn21_0.all (ackN qY zIT zmcl qW qPt zMt qKH qKB qc21 qn21 6 3000) = true := by decide +kernel
theorem qk22_e : ack0 qY zIT zmcl qW qPt zMt qKH qKB qc22 qn22 6 3000 = true := by decide +kernel
theorem qk22_0 : qn22_0.all (ackN qY zIT zmcl qW qPt zMt qKH qKB qc22 qn22 6 3000) = true := by decide +kernel
theorem qk23_e : ack0 qY zIT zmcl qW qPt zMt qKH qKB qc23 qn23 6 3000 = true := by decide +kernel
theorem qk23_0 : qn23_0.all (ackN qY zIT zmcl qW qPt zMt qKH qKB qc23 qn23 6 3000) = true := by decide +kernel
theorem qk24_e : ack0 qY zIT zmcl qW qPt zMt qKH qKB qc24 qn24 6 3000 = true := by decide +kernel
theorem qk24_0 : qn24_0.all (ackN qY zIT zmcl qW qPt zMt qKH qKB qc24 qn24 6 3000) = true := by decide +kernel
theorem qk25_e : ack0 qY zIT zmcl qW qPt zMt qKH qKB qc25 qn25 6 3000 = true := by decide +kernel
theorem qk25_0 : qn25_0.all (ackN qY zIT zmcl qW qPt zMt qKH qKB qc25 qn25 6 3000) = true := by decide +kernel
theorem qk26_e : ack0 qY zIT zmcl qW qPt zMt qKH qKB qc26 qn26 6 3000 = true := by decide +kernel
theorem qk26_0 : qn26_0.all (ackN qY zIT zmcl qW qPt zMt qKH qKB qc26 qn26 6 3000) = true := by decide +kernel
theorem qk27_e : ack0 qY zIT zmcl qW qPt zMt qKH qKB qc27 qn27 6 3000 = true := by decide +kernel
theorem qk27_0 : qn27_0.all (ackN qY zIT zmcl qW qPt zMt qKH qKB qc27 qn27 6 3000) = true := by decide +kernel
theorem qk28_e : ack0 qY zIT zmcl qW qPt zMt qKH qKB qc28 qn28 6 3000 = true := by decide +kernel
theorem qk28_0 : qn28_0.all (ackN qY zIT zmcl qW qPt zMt qKH qKB qc28 qn28 6 3000) = true := by decide +kernel
