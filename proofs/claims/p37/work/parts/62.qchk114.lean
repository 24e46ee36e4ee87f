/-! Joined: 62.qchk114, 62.qchk115, 62.qchk116, 62.qchk117, 62.qchk12. -/
section
theorem qk57_40 : qn57_40.all (ackN qY zIT zmcl qW qPt zMt qKH qKB qc57 qn57 6 3000) = true := by decide +kernel
end
section
theorem qk57_41 : qn57_41.all (ackN qY zIT zmcl qW qPt zMt qKH qKB qc57 qn57 6 3000) = true := by decide +kernel
end
section
theorem qk57_42 : qn57_42.all (ackN qY zIT zmcl qW qPt zMt qKH qKB qc57 qn57 6 3000) = true := by decide +kernel
end
section
theorem qk57_43 : qn57_43.all (ackN qY zIT zmcl qW qPt zMt qKH qKB qc57 qn57 6 3000) = true := by decide +kernel
theorem qk57_44 : qn57_44.all (ackN qY zIT zmcl qW qPt zMt qKH qKB qc57 qn57 6 3000) = true := by decide +kernel
end
section
theorem qk58_e : ack0 qY zIT zmcl qW qPt zMt qKH qKB qc58 qn58 6 3000 = true := by decide +kernel
theorem qk59_e : ack0 qY zIT zmcl qW qPt zMt qKH qKB qc59 qn59 6 3000 = true := by decide +kernel
theorem qk60_e : ack0 qY zIT zmcl qW qPt zMt qKH qKB qc60 qn60 6 3000 = true := by decide +kernel
theorem qk61_e : ack0 qY zIT zmcl qW qPt zMt qKH qKB qc61 qn61 6 3000 = true := by decide +kernel
theorem qk62_e : ack0 qY zIT zmcl qW qPt zMt qKH qKB qc62 qn62 6 3000 = true := by decide +kernel
theorem qk63_e : ack0 qY zIT zmcl qW qPt zMt qKH qKB qc63 qn63 6 3000 = true := by decide +kernel
theorem qk64_e : ack0 qY zIT zmcl qW qPt zMt qKH qKB qc64 qn64 6 3000 = true := by decide +kernel
theorem qk65_e : ack0 qY zIT zmcl qW qPt zMt qKH qKB qc65 qn65 6 3000 = true := by decide +kernel
theorem qk66_e : ack0 qY zIT zmcl qW qPt zMt qKH qKB qc66 qn66 6 3000 = true := by decide +kernel
theorem qk67_e : ack0 qY zIT zmcl qW qPt zMt qKH qKB qc67 qn67 6 3000 = true := by decide +kernel
theorem qk68_e : ack0 qY zIT zmcl qW qPt zMt qKH qKB qc68 qn68 6 3000 = true := by decide +kernel
theorem qk69_e : ack0 qY zIT zmcl qW qPt zMt qKH qKB qc69 qn69 6 3000 = true := by decide +kernel
theorem qk70_e : ack0 qY zIT zmcl qW qPt zMt qKH qKB qc70 qn70 6 3000 = true := by decide +kernel
theorem qk71_e : ack0 qY zIT zmcl qW qPt zMt qKH qKB qc71 qn71 6 3000 = true := by decide +kernel
theorem qk72_e : ack0 qY zIT zmcl qW qPt zMt qKH qKB qc72 qn72 6 3000 = true := by decide +kernel
theorem qk73_e : ack0 qY zIT zmcl qW qPt zMt qKH qKB qc73 qn73 6 3000 = true := by decide +kernel
theorem qk74_e : ack0 qY zIT zmcl qW qPt zMt qKH qKB qc74 qn74 6 3000 = true := by decide +kernel
theorem qk75_e : ack0 qY zIT zmcl qW qPt zMt qKH qKB qc75 qn75 6 3000 = true := by decide +kernel
theorem qk76_e : ack0 qY zIT zmcl qW qPt zMt qKH qKB qc76 qn76 6 3000 = true := by decide +kernel
theorem qk76_0 : qn76_0.all (ackN qY zIT zmcl qW qPt zMt qKH qKB qc76 qn76 6 3000) = true := by decide +kernel
theorem qk77_e : ack0 qY zIT zmcl qW qPt zMt qKH qKB qc77 qn77 6 3000 = true := by decide +kernel
theorem qk77_0 : qn77_0.all (ackN qY zIT zmcl qW qPt zMt qKH qKB qc77 qn77 6 3000) = true := by decide +kernel
theorem qk79_e : ack0 qY zIT zmcl qW qPt zMt qK0 qKA qc79 qn79 6 3000 = true := by decide +kernel
theorem qk81_e : ack0 qY zIT zmcl qW qPt zMt qK0 qKA qc81 qn81 6 3000 = true := by decide +kernel
theorem qk82_e : ack0 qY zIT zmcl qW qPt zMt qKH qKB qc82 qn82 6 3000 = true := by decide +kernel
theorem qk84_e : ack0 qY zIT zmcl qW qPt zMt qK0 qKA qc84 qn84 6 3000 = true := by decide +kernel
theorem qk86_e : ack0 qY zIT zmcl qW qPt zMt qK0 qKA qc86 qn86 6 3000 = true := by decide +kernel
theorem qk88_e : ack0 qY zIT zmcl qW qPt zMt qK0 qKA qc88 qn88 6 3000 = true := by decide +kernel
theorem qk89_e : ack0 qY zIT zmcl qW qPt zMt qKH qKB qc89 qn89 6 3000 = true := by decide +kernel
theorem qk90_e : ack0 qY zIT zmcl qW qPt zMt qKH qKB qc90 qn90 6 3000 = true := by decide +kernel
end
