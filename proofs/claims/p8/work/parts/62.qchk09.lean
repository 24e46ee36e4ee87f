theorem qk35_e : ack0 qY zIT zmcl qW qPt zMt qKH qKB qc35 qn35 6 3000 = true := by decide +kernel
theorem qk35_0 : qn35_0.all (ackN qY zIT zmcl qW qPt zMt qKH qKB qc35 qn35 6 3000) = true := by decide +kernel
theorem qk36_e : ack0 qY zIT zmcl qW qPt zMt qKH qKB qc36 qn36 6 3000 = true := by decide +kernel
theorem qk36_0 : qn36_0.all (ackN qY zIT zmcl qW qPt zMt qKH qKB qc36 qn36 6 3000) = true := by decide +kernel
theorem qk37_e : ack0 qY zIT zmcl qW qPt zMt qKH qKB qc37 qn37 6 3000 = true := by decide +kernel
theorem qk37_0 : qn37_0.all (ackN qY zIT zmcl qW qPt zMt qKH qKB qc37 qn37 6 3000) = true := by decide +kernel
theorem qk38_e : ack0 qY zIT zmcl qW qPt zMt qKH qKB qc38 qn38 6 3000 = true := by decide +kernel
theorem qk38_0 : qn38_0.all (ackN qY zIT zmcl qW qPt zMt qKH qKB qc38 qn38 6 3000) = true := by decide +kernel
