theorem qk227_e : ack0 qY zIT zmcl qW qPt zMt qKH qKB qc227 qn227 6 3000 = true := by decide +kernel
theorem qk227_0 : qn227_0.all (ackN qY zIT zmcl qW qPt zMt qKH qKB qc227 qn227 6 3000) = true := by decide +kernel
theorem qk227_1 : qn227_1.all (ackN qY zIT zmcl qW qPt zMt qKH qKB qc227 qn227 6 3000) = true := by decide +kernel
theorem qk228_e : ack0 qY zIT zmcl qW qPt zMt qKH qKB qc228 qn228 6 3000 = true := by decide +kernel
theorem qk228_0 : qn228_0.all (ackN qY zIT zmcl qW qPt zMt qKH qKB qc228 qn228 6 3000) = true := by decide +kernel
