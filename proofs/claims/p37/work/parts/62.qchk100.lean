/-! Joined: 62.qchk100, 62.qchk101, 62.qchk102, 62.qchk103, 62.qchk104, 62.qchk105. -/
section
theorem qk57_26 : qn57_26.all (ackN qY zIT zmcl qW qPt zMt qKH qKB qc57 qn57 6 3000) = true := by decide +kernel
end
section
theorem qk57_27 : qn57_27.all (ackN qY zIT zmcl qW qPt zMt qKH qKB qc57 qn57 6 3000) = true := by decide +kernel
end
section
theorem qk57_28 : qn57_28.all (ackN qY zIT zmcl qW qPt zMt qKH qKB qc57 qn57 6 3000) = true := by decide +kernel
end
section
theorem qk57_29 : qn57_29.all (ackN qY zIT zmcl qW qPt zMt qKH qKB qc57 qn57 6 3000) = true := by decide +kernel
end
section
theorem qk57_30 : qn57_30.all (ackN qY zIT zmcl qW qPt zMt qKH qKB qc57 qn57 6 3000) = true := by decide +kernel
end
section
theorem qk57_31 : qn57_31.all (ackN qY zIT zmcl qW qPt zMt qKH qKB qc57 qn57 6 3000) = true := by decide +kernel
end
