theorem qk57_43 : qn57_43.all (ackN qY zIT zmcl qW qPt zMt qKH qKB qc57 qn57 6 3000) = true := by decide +kernel
theorem qk57_44 : qn57_44.all (ackN qY zIT zmcl qW qPt zMt qKH qKB qc57 qn57 6 3000) = true := by decide +kernel
