theorem qk251_e : ack0 qY zIT zmcl qW qPt zMt qKH qKB qc251 qn251 6 3000 = true := by decide +kernel
theorem qk251_0 : qn251_0.all (ackN qY zIT zmcl qW qPt zMt qKH qKB qc251 qn251 6 3000) = true := by decide +kernel
theorem qk252_e : ack0 qY zIT zmcl qW qPt zMt qKH qKB qc252 qn252 6 3000 = true := by decide +kernel
theorem qk253_e : ack0 qY zIT zmcl qW qPt zMt qKH qKB qc253 qn253 6 3000 = true := by decide +kernel
theorem qk254_e : ack0 qY zIT zmcl qW qPt zMt qKH qKB qc254 qn254 6 3000 = true := by decide +kernel
theorem qk254_0 : qn254_0.all (ackN qY zIT zmcl qW qPt zMt qKH qKB qc254 qn254 6 3000) = true := by decide +kernel
theorem qk255_e : ack0 qY zIT zmcl qW qPt zMt qKH qKB qc255 qn255 6 3000 = true := by decide +kernel
theorem qk255_0 : qn255_0.all (ackN qY zIT zmcl qW qPt zMt qKH qKB qc255 qn255 6 3000) = true := by decide +kernel
theorem qk256_e : ack0 qY zIT zmcl qW qPt zMt qKH qKB qc256 qn256 6 3000 = true := by decide +kernel
theorem qk256_0 : qn256_0.all (ackN qY zIT zmcl qW qPt zMt qKH qKB qc256 qn256 6 3000) = true := by decide +kernel
