theorem qk108_0 : qn108_0.all (ackN qY zIT zmcl qW qPt zMt qKH qKB qc108 qn108 6 3000) = true := by decide +kernel
