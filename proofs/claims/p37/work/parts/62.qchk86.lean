/-! Joined: 62.qchk86, 62.qchk87, 62.qchk88, 62.qchk89, 62.qchk90, 62.qchk91. -/
section
theorem qk57_12 : qn57_12.all (ackN qY zIT zmcl qW qPt zMt qKH qKB qc57 qn57 6 3000) = true := by decide +kernel
end
section
theorem qk57_13 : qn57_13.all (ackN qY zIT zmcl qW qPt zMt qKH qKB qc57 qn57 6 3000) = true := by decide +kernel
end
section
theorem qk57_14 : qn57_14.all (ackN qY zIT zmcl qW qPt zMt qKH qKB qc57 qn57 6 3000) = true := by decide +kernel
end
section
theorem qk57_15 : qn57_15.all (ackN qY zIT zmcl qW qPt zMt qKH qKB qc57 qn57 6 3000) = true := by decide +kernel
end
section
theorem qk57_16 : qn57_16.all (ackN qY zIT zmcl qW qPt zMt qKH qKB qc57 qn57 6 3000) = true := by decide +kernel
end
section
theorem qk57_17 : qn57_17.all (ackN qY zIT zmcl qW qPt zMt qKH qKB qc57 qn57 6 3000) = true := by decide +kernel
end
