theorem qk120_e : ack0 qY zIT zmcl qW qPt zMt qKH qKB qc120 qn120 6 3000 = true := by decide +kernel
theorem qk121_e : ack0 qY zIT zmcl qW qPt zMt qKH qKB qc121 qn121 6 3000 = true := by decide +kernel
theorem qk122_e : ack0 qY zIT zmcl qW qPt zMt qKH qKB qc122 qn122 6 3000 = true := by decide +kernel
theorem qk122_0 : qn122_0.all (ackN qY zIT zmcl qW qPt zMt qKH qKB qc122 qn122 6 3000) = true := by decide +kernel
theorem qk123_e : ack0 qY zIT zmcl qW qPt zMt qKH qKB qc123 qn123 6 3000 = true := by decide +kernel
theorem qk124_e : ack0 qY zIT zmcl qW qPt zMt qKH qKB qc124 qn124 6 3000 = true := by decide +kernel
theorem qk125_e : ack0 qY zIT zmcl qW qPt zMt qKH qKB qc125 qn125 6 3000 = true := by decide +kernel
theorem qk126_e : ack0 qY zIT zmcl qW qPt zMt qKH qKB qc126 qn126 6 3000 = true := by decide +kernel
theorem qk126_0 : qn126_0.all (ackN qY zIT zmcl qW qPt zMt qKH qKB qc126 qn126 6 3000) = true := by decide +kernel
theorem qk127_e : ack0 qY zIT zmcl qW qPt zMt qKH qKB qc127 qn127 6 3000 = true := by decide +kernel
theorem qk127_0 : qn127_0.all (ackN qY zIT zmcl qW qPt zMt qKH qKB qc127 qn127 6 3000) = true := by decide +kernel
theorem qk128_e : ack0 qY zIT zmcl qW qPt zMt qKH qKB qc128 qn128 6 3000 = true := by decide +kernel
theorem qk128_0 : qn128_0.all (ackN qY zIT zmcl qW qPt zMt qKH qKB qc128 qn128 6 3000) = true := by decide +kernel
