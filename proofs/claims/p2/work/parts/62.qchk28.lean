theorem qk227_e : ack0 qY zIT zmcl qW qPt zMt qKH qKB qc227 qn227 6 3000 = true := by decide +kernel
