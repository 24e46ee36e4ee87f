/-! Joined: 62.qchk20, 62.qchk21. -/
section
theorem qk129_e : ack0 qY zIT zmcl qW qPt zMt qKH qKB qc129 qn129 6 3000 = true := by decide +kernel
end
section
theorem qk130_e : ack0 qY zIT zmcl qW qPt zMt qKH qKB qc130 qn130 6 3000 = true := by decide +kernel
end
