theorem qk57_24 : qn57_24.all (ackN qY zIT zmcl qW qPt zMt qKH qKB qc57 qn57 6 3000) = true := by decide +kernel
