theorem qk91_e : ack0 qY zIT zmcl qW qPt zMt qK0 qKA qc91 qn91 6 3000 = true := by decide +kernel
