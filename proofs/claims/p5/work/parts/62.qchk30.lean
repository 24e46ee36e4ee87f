theorem qk159_0 : qn159_0.all (ackN qY zIT zmcl qW qPt zMt qKH qKB qc159 qn159 6 3000) = true := by decide +kernel
