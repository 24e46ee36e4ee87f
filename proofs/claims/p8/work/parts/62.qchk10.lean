theorem qk39_e : ack0 qY zIT zmcl qW qPt zMt qKH qKB qc39 qn39 6 3000 = true := by decide +kernel
theorem qk39_0 : qn39_0.all (ackN qY zIT zmcl qW qPt zMt qKH qKB qc39 qn39 6 3000) = true := by decide +kernel
theorem qk40_e : ack0 qY zIT zmcl qW qPt zMt qKH qKB qc40 qn40 6 3000 = true := by decide +kernel
theorem qk40_0 : qn40_0.all (ackN qY zIT zmcl qW qPt zMt qKH qKB qc40 qn40 6 3000) = true := by decide +kernel
theorem qk41_e : ack0 qY zIT zmcl qW qPt zMt qKH qKB qc41 qn41 6 3000 = true := by decide +kernel
theorem qk41_0 : qn41_0.all (ackN qY zIT zmcl qW qPt zMt qKH qKB qc41 qn41 6 3000) = true := by decide +kernel
theorem qk42_e : ack0 qY zIT zmcl qW qPt zMt qKH qKB qc42 qn42 6 3000 = true := by decide +kernel
theorem qk42_0 : qn42_0.all (ackN qY zIT zmcl qW qPt zMt qKH qKB qc42 qn42 6 3000) = true := by decide +kernel
theorem qk43_e : ack0 qY zIT zmcl qW qPt zMt qKH qKB qc43 qn43 6 3000 = true := by decide +kernel
theorem qk44_e : ack0 qY zIT zmcl qW qPt zMt qKH qKB qc44 qn44 6 3000 = true := by decide +kernel
theorem qk45_e : ack0 qY zIT zmcl qW qPt zMt qKH qKB qc45 qn45 6 3000 = true := by decide +kernel
theorem qk46_e : ack0 qY zIT zmcl qW qPt zMt qKH qKB qc46 qn46 6 3000 = true := by decide +kernel
theorem qk47_e : ack0 qY zIT zmcl qW qPt zMt qKH qKB qc47 qn47 6 3000 = true := by decide +kernel
theorem qk48_e : ack0 qY zIT zmcl qW qPt zMt qKH qKB qc48 qn48 6 3000 = true := by decide +kernel
theorem qk49_e : ack0 qY zIT zmcl qW qPt zMt qKH qKB qc49 qn49 6 3000 = true := by decide +kernel
