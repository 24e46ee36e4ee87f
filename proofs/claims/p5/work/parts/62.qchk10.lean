theorem qk77_e : ack0 qY zIT zmcl qW qPt zMt qK0 qKA qc77 qn77 6 3000 = true := by decide +kernel
