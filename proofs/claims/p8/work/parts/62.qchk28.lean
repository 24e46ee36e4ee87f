theorem qk143_2 : qn143_2.all (ackN qY zIT zmcl qW qPt zMt qKH qKB qc143 qn143 6 3000) = true := by decide +kernel
