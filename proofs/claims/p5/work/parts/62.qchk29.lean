theorem qk159_e : ack0 qY zIT zmcl qW qPt zMt qKH qKB qc159 qn159 6 3000 = true := by decide +kernel
