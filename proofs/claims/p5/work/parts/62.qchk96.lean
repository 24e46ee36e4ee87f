theorem qk43_34 : qn43_34.all (ackN qY zIT zmcl qW qPt zMt qKH qKB qc43 qn43 6 3000) = true := by decide +kernel
