/-! Joined: 62.qchk11, 62.qchk110, 62.qchk111, 62.qchk112, 62.qchk113. -/
section
theorem qk50_e : ack0 qY zIT zmcl qW qPt zMt qKH qKB qc50 qn50 6 3000 = true := by decide +kernel
theorem qk50_0 : qn50_0.all (ackN qY zIT zmcl qW qPt zMt qKH qKB qc50 qn50 6 3000) = true := by decide +kernel
theorem qk51_e : ack0 qY zIT zmcl qW qPt zMt qKH qKB qc51 qn51 6 3000 = true := by decide +kernel
theorem qk51_0 : qn51_0.all (ackN qY zIT zmcl qW qPt zMt qKH qKB qc51 qn51 6 3000) = true := by decide +kernel
theorem qk52_e : ack0 qY zIT zmcl qW qPt zMt qKH qKB qc52 qn52 6 3000 = true := by decide +kernel
theorem qk53_e : ack0 qY zIT zmcl qW qPt zMt qKH qKB qc53 qn53 6 3000 = true := by decide +kernel
theorem qk54_e : ack0 qY zIT zmcl qW qPt zMt qKH qKB qc54 qn54 6 3000 = true := by decide +kernel
theorem qk55_e : ack0 qY zIT zmcl qW qPt zMt qKH qKB qc55 qn55 6 3000 = true := by decide +kernel
theorem qk55_0 : qn55_0.all (ackN qY zIT zmcl qW qPt zMt qKH qKB qc55 qn55 6 3000) = true := by decide +kernel
theorem qk56_e : ack0 qY zIT zmcl qW qPt zMt qKH qKB qc56 qn56 6 3000 = true := by decide +kernel
end
section
theorem qk57_36 : qn57_36.all (ackN qY zIT zmcl qW qPt zMt qKH qKB qc57 qn57 6 3000) = true := by decide +kernel
end
section
theorem qk57_37 : qn57_37.all (ackN qY zIT zmcl qW qPt zMt qKH qKB qc57 qn57 6 3000) = true := by decide +kernel
end
section
theorem qk57_38 : qn57_38.all (ackN qY zIT zmcl qW qPt zMt qKH qKB qc57 qn57 6 3000) = true := by decide +kernel
end
section
theorem qk57_39 : qn57_39.all (ackN qY zIT zmcl qW qPt zMt qKH qKB qc57 qn57 6 3000) = true := by decide +kernel
end
