/-! Joined: 62.qchk92, 62.qchk93, 62.qchk94, 62.qchk95, 62.qchk96, 62.qchk97. -/
section
theorem qk57_18 : qn57_18.all (ackN qY zIT zmcl qW qPt zMt qKH qKB qc57 qn57 6 3000) = true := by decide +kernel
end
section
theorem qk57_19 : qn57_19.all (ackN qY zIT zmcl qW qPt zMt qKH qKB qc57 qn57 6 3000) = true := by decide +kernel
end
section
theorem qk57_20 : qn57_20.all (ackN qY zIT zmcl qW qPt zMt qKH qKB qc57 qn57 6 3000) = true := by decide +kernel
end
section
theorem qk57_21 : qn57_21.all (ackN qY zIT zmcl qW qPt zMt qKH qKB qc57 qn57 6 3000) = true := by decide +kernel
end
section
theorem qk57_22 : qn57_22.all (ackN qY zIT zmcl qW qPt zMt qKH qKB qc57 qn57 6 3000) = true := by decide +kernel
end
section
theorem qk57_23 : qn57_23.all (ackN qY zIT zmcl qW qPt zMt qKH qKB qc57 qn57 6 3000) = true := by decide +kernel
end
