theorem qk83_e : ack0 qY zIT zmcl qW qPt zMt qKH qKB qc83 qn83 6 3000 = true := by decide +kernel
theorem qk83_0 : qn83_0.all (ackN qY zIT zmcl qW qPt zMt qKH qKB qc83 qn83 6 3000) = true := by decide +kernel
theorem qk84_e : ack0 qY zIT zmcl qW qPt zMt qKH qKB qc84 qn84 6 3000 = true := by decide +kernel
theorem qk85_e : ack0 qY zIT zmcl qW qPt zMt qKH qKB qc85 qn85 6 3000 = true := by decide +kernel
theorem qk85_0 : qn85_0.all (ackN qY zIT zmcl qW qPt zMt qKH qKB qc85 qn85 6 3000) = true := by decide +kernel
theorem qk86_e : ack0 qY zIT zmcl qW qPt zMt qKH qKB qc86 qn86 6 3000 = true := by decide +kernel
theorem qk86_0 : qn86_0.all (ackN qY zIT zmcl qW qPt zMt qKH qKB qc86 qn86 6 3000) = true := by decide +kernel
