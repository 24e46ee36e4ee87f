theorem qk43_38 : qn43_38.all (ackN qY zIT zmcl qW qPt zMt qKH qKB qc43 qn43 6 3000) = true := by decide +kernel
