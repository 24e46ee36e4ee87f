theorem qk193_e : ack0 qY zIT zmcl qW qPt zMt qKH qKB qc193 qn193 6 3000 = true := by decide +kernel
theorem qk194_e : ack0 qY zIT zmcl qW qPt zMt qKH qKB qc194 qn194 6 3000 = true := by decide +kernel
theorem qk194_0 : qn194_0.all (ackN qY zIT zmcl qW qPt zMt qKH qKB qc194 qn194 6 3000) = true := by decide +kernel
theorem qk195_e : ack0 qY zIT zmcl qW qPt zMt qKH qKB qc195 qn195 6 3000 = true := by decide +kernel
theorem qk195_0 : qn195_0.all (ackN qY zIT zmcl qW qPt zMt qKH qKB qc195 qn195 6 3000) = true := by decide +kernel
theorem qk196_e : ack0 qY zIT zmcl qW qPt zMt qKH qKB qc196 qn196 6 3000 = true := by decide +kernel
theorem qk197_e : ack0 qY zIT zmcl qW qPt zMt qKH qKB qc197 qn197 6 3000 = true := by decide +kernel
theorem qk198_e : ack0 qY zIT zmcl qW qPt zMt qKH qKB qc198 qn198 6 3000 = true := by decide +kernel
theorem qk198_0 : qn198_0.all (ackN qY zIT zmcl qW qPt zMt qKH qKB qc198 qn198 6 3000) = true := by decide +kernel
theorem qk199_e : ack0 qY zIT zmcl qW qPt zMt qKH qKB qc199 qn199 6 3000 = true := by decide +kernel
theorem qk199_0 : qn199_0.all (ackN qY zIT zmcl qW qPt zMt qKH qKB qc199 qn199 6 3000) = true := by decide +kernel
