theorem qk13_e : ack0 qY zIT zmcl qW qPt zMt qKH qKB qc13 qn13 6 3000 = true := by decide +kernel
theorem qk14_e : ack0 qY zIT zmcl qW qPt zMt qKH qKB qc14 qn14 6 3000 = true := by decide +kernel
theorem qk16_e : ack0 qY zIT zmcl qW qPt zMt qK0 qKA qc16 qn16 6 3000 = true := by decide +kernel
