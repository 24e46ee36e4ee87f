theorem qk43_0 : qn43_0.all (ackN qY zIT zmcl qW qPt zMt qKH qKB qc43 qn43 6 3000) = true := by decide +kernel
