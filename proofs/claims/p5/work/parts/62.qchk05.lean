theorem qk14_e : ack0 qY zIT zmcl qW qPt zMt qKH qKB qc14 qn14 6 3000 = true := by decide +kernel
theorem qk14_0 : qn14_0.all (ackN qY zIT zmcl qW qPt zMt qKH qKB qc14 qn14 6 3000) = true := by decide +kernel
theorem qk15_e : ack0 qY zIT zmcl qW qPt zMt qKH qKB qc15 qn15 6 3000 = true := by decide +kernel
theorem qk15_0 : qn15_0.all (ackN qY zIT zmcl qW qPt zMt qKH qKB qc15 qn15 6 3000) = true := by decide +kernel
theorem qk16_e : ack0 qY zIT zmcl qW qPt zMt qKH qKB qc16 qn16 6 3000 = true := by decide +kernel
theorem qk16_0 : qn16_0.all (ackN qY zIT zmcl qW qPt zMt qKH qKB qc16 qn16 6 3000) = true := by decide +kernel
theorem qk17_e : ack0 qY zIT zmcl qW qPt zMt qKH qKB qc17 qn17 6 3000 = true := by decide +kernel
theorem qk17_0 : qn17_0.all (ackN qY zIT zmcl qW qPt zMt qKH qKB qc17 qn17 6 3000) = true := by decide +kernel
theorem qk18_e : ack0 qY zIT zmcl qW qPt zMt qKH qKB qc18 qn18 6 3000 = true := by decide +kernel
theorem qk18_0 : qn18_0.all (ackN qY zIT zmcl qW qPt zMt qKH qKB qc18 qn18 6 3000) = true := by decide +kernel
theorem qk19_e : ack0 qY zIT zmcl qW qPt zMt qKH qKB qc19 qn19 6 3000 = true := by decide +kernel
theorem qk20_e : ack0 qY zIT zmcl qW qPt zMt qKH qKB qc20 qn20 6 3000 = true := by decide +kernel
theorem qk20_0 : qn20_0.all (ackN qY zIT zmcl qW qPt zMt qKH qKB qc20 qn20 6 3000) = true := by decide +kernel
