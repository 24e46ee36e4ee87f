/-! Joined: 62.qchk22, 62.qchk23, 62.qchk24, 62.qchk25, 62.qchk26, 62.qchk27. -/
section
theorem qk131_e : ack0 qY zIT zmcl qW qPt zMt qKH qKB qc131 qn131 6 3000 = true := by decide +kernel
theorem qk131_0 : qn131_0.all (ackN qY zIT zmcl qW qPt zMt qKH qKB qc131 qn131 6 3000) = true := by decide +kernel
theorem qk132_e : ack0 qY zIT zmcl qW qPt zMt qKH qKB qc132 qn132 6 3000 = true := by decide +kernel
theorem qk132_0 : qn132_0.all (ackN qY zIT zmcl qW qPt zMt qKH qKB qc132 qn132 6 3000) = true := by decide +kernel
theorem qk133_e : ack0 qY zIT zmcl qW qPt zMt qKH qKB qc133 qn133 6 3000 = true := by decide +kernel
theorem qk133_0 : qn133_0.all (ackN qY zIT zmcl qW qPt zMt qKH qKB qc133 qn133 6 3000) = true := by decide +kernel
theorem qk134_e : ack0 qY zIT zmcl qW qPt zMt qKH qKB qc134 qn134 6 3000 = true := by decide +kernel
theorem qk134_0 : qn134_0.all (ackN qY zIT zmcl qW qPt zMt qKH qKB qc134 qn134 6 3000) = true := by decide +kernel
theorem qk135_e : ack0 qY zIT zmcl qW qPt zMt qKH qKB qc135 qn135 6 3000 = true := by decide +kernel
theorem qk135_0 : qn135_0.all (ackN qY zIT zmcl qW qPt zMt qKH qKB qc135 qn135 6 3000) = true := by decide +kernel
theorem qk136_e : ack0 qY zIT zmcl qW qPt zMt qKH qKB qc136 qn136 6 3000 = true := by decide +kernel
theorem qk136_0 : qn136_0.all (ackN qY zIT zmcl qW qPt zMt qKH qKB qc136 qn136 6 3000) = true := by decide +kernel
end
section
theorem qk137_e : ack0 qY zIT zmcl qW qPt zMt qKH qKB qc137 qn137 6 3000 = true := by decide +kernel
theorem qk137_0 : qn137_0.all (ackN qY zIT zmcl qW qPt zMt qKH qKB qc137 qn137 6 3000) = true := by decide +kernel
end
section
theorem qk138_e : ack0 qY zIT zmcl qW qPt zMt qKH qKB qc138 qn138 6 3000 = true := by decide +kernel
end
section
theorem qk138_0 : qn138_0.all (ackN qY zIT zmcl qW qPt zMt qKH qKB qc138 qn138 6 3000) = true := by decide +kernel
end
section
theorem qk139_e : ack0 qY zIT zmcl qW qPt zMt qKH qKB qc139 qn139 6 3000 = true := by decide +kernel
theorem qk140_e : ack0 qY zIT zmcl qW qPt zMt qKH qKB qc140 qn140 6 3000 = true := by decide +kernel
theorem qk141_e : ack0 qY zIT zmcl qW qPt zMt qKH qKB qc141 qn141 6 3000 = true := by decide +kernel
theorem qk142_e : ack0 qY zIT zmcl qW qPt zMt qKH qKB qc142 qn142 6 3000 = true := by decide +kernel
end
section
theorem qk143_e : ack0 qY zIT zmcl qW qPt zMt qKH qKB qc143 qn143 6 3000 = true := by decide +kernel
theorem qk143_0 : qn143_0.all (ackN qY zIT zmcl qW qPt zMt qKH qKB qc143 qn143 6 3000) = true := by decide +kernel
theorem qk143_1 : qn143_1.all (ackN qY zIT zmcl qW qPt zMt qKH qKB qc143 qn143 6 3000) = true := by decide +kernel
end
