/-! Joined: 62.qchk98, 62.qchk99. -/
section
theorem qk57_24 : qn57_24.all (ackN qY zIT zmcl qW qPt zMt qKH qKB qc57 qn57 6 3000) = true := by decide +kernel
end
section
theorem qk57_25 : qn57_25.all (ackN qY zIT zmcl qW qPt zMt qKH qKB qc57 qn57 6 3000) = true := by decide +kernel
end
