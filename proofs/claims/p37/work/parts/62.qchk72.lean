/-! Joined: 62.qchk72, 62.qchk73, 62.qchk74, 62.qchk75, 62.qchk76, 62.qchk77, 62.qchk78, 62.qchk79. -/
section
theorem qk282_34 : qn282_34.all (ackN qY zIT zmcl qW qPt zMt qKH qKB qc282 qn282 6 3000) = true := by decide +kernel
end
section
theorem qk57_e : ack0 qY zIT zmcl qW qPt zMt qKH qKB qc57 qn57 6 3000 = true := by decide +kernel
end
section
theorem qk57_0 : qn57_0.all (ackN qY zIT zmcl qW qPt zMt qKH qKB qc57 qn57 6 3000) = true := by decide +kernel
end
section
theorem qk57_1 : qn57_1.all (ackN qY zIT zmcl qW qPt zMt qKH qKB qc57 qn57 6 3000) = true := by decide +kernel
end
section
theorem qk57_2 : qn57_2.all (ackN qY zIT zmcl qW qPt zMt qKH qKB qc57 qn57 6 3000) = true := by decide +kernel
end
section
theorem qk57_3 : qn57_3.all (ackN qY zIT zmcl qW qPt zMt qKH qKB qc57 qn57 6 3000) = true := by decide +kernel
end
section
theorem qk57_4 : qn57_4.all (ackN qY zIT zmcl qW qPt zMt qKH qKB qc57 qn57 6 3000) = true := by decide +kernel
end
section
theorem qk57_5 : qn57_5.all (ackN qY zIT zmcl qW qPt zMt qKH qKB qc57 qn57 6 3000) = true := by decide +kernel
end
