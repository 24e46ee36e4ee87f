theorem qk36_e : ack0 qY zIT zmcl qW qPt zMt qKH qKB qc36 qn36 6 3000 = true := by decide +kernel
theorem qk36_0 : qn36_0.all (ackN qY zIT zmcl qW qPt zMt qKH qKB qc36 qn36 6 3000) = true := by decide +kernel
theorem qk37_e : ack0 qY zIT zmcl qW qPt zMt qKH qKB qc37 qn37 6 3000 = true := by decide +kernel
theorem qk37_0 : qn37_0.all (ackN qY zIT zmcl qW qPt zMt qKH qKB qc37 qn37 6 3000) = true := by decide +kernel
theorem qk38_e : ack0 qY zIT zmcl qW qPt zMt qKH qKB qc38 qn38 6 3000 = true := by decide +kernel
theorem qk39_e : ack0 qY zIT zmcl qW qPt zMt qKH qKB qc39 qn39 6 3000 = true := by decide +kernel
theorem qk40_e : ack0 qY zIT zmcl qW qPt zMt qKH qKB qc40 qn40 6 3000 = true := by decide +kernel
theorem qk41_e : ack0 qY zIT zmcl qW qPt zMt qKH qKB qc41 qn41 6 3000 = true := by decide +kernel
theorem qk41_0 : qn41_0.all (ackN qY zIT zmcl qW qPt zMt qKH qKB qc41 qn41 6 3000) = true := by decide +kernel
theorem qk42_e : ack0 qY zIT zmcl qW qPt zMt qKH qKB qc42 qn42 6 3000 = true := by decide +kernel
