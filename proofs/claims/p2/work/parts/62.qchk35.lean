theorem qk43_3 : qn43_3.all (ackN qY zIT zmcl qW qPt zMt qKH qKB qc43 qn43 6 3000) = true := by decide +kernel
theorem qk43_4 : qn43_4.all (ackN qY zIT zmcl qW qPt zMt qKH qKB qc43 qn43 6 3000) = true := by decide +kernel
theorem qk43_5 : qn43_5.all (ackN qY zIT zmcl qW qPt zMt qKH qKB qc43 qn43 6 3000) = true := by decide +kernel
theorem qk43_6 : qn43_6.all (ackN qY zIT zmcl qW qPt zMt qKH qKB qc43 qn43 6 3000) = true := by decide +kernel
