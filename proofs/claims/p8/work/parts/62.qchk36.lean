theorem qk195_e : ack0 qY zIT zmcl qW qPt zMt qKH qKB qc195 qn195 6 3000 = true := by decide +kernel
theorem qk196_e : ack0 qY zIT zmcl qW qPt zMt qKH qKB qc196 qn196 6 3000 = true := by decide +kernel
theorem qk196_0 : qn196_0.all (ackN qY zIT zmcl qW qPt zMt qKH qKB qc196 qn196 6 3000) = true := by decide +kernel
theorem qk197_e : ack0 qY zIT zmcl qW qPt zMt qKH qKB qc197 qn197 6 3000 = true := by decide +kernel
theorem qk197_0 : qn197_0.all (ackN qY zIT zmcl qW qPt zMt qKH qKB qc197 qn197 6 3000) = true := by decide +kernel
