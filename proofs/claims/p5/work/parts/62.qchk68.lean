theorem qk43_6 : qn43_6.all (ackN qY zIT zmcl qW qPt zMt qKH qKB qc43 qn43 6 3000) = true := by decide +kernel
