theorem qk222_e : ack0 qY zIT zmcl qW qPt zMt qKH qKB qc222 qn222 6 3000 = true := by decide +kernel
theorem qk223_e : ack0 qY zIT zmcl qW qPt zMt qKH qKB qc223 qn223 6 3000 = true := by decide +kernel
theorem qk223_0 : qn223_0.all (ackN qY zIT zmcl qW qPt zMt qKH qKB qc223 qn223 6 3000) = true := by decide +kernel
theorem qk224_e : ack0 qY zIT zmcl qW qPt zMt qKH qKB qc224 qn224 6 3000 = true := by decide +kernel
theorem qk224_0 : qn224_0.all (ackN qY zIT zmcl qW qPt zMt qKH qKB qc224 qn224 6 3000) = true := by decide +kernel
