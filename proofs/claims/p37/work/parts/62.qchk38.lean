/-! Joined: 62.qchk38, 62.qchk39. -/
section
theorem qk198_0 : qn198_0.all (ackN qY zIT zmcl qW qPt zMt qKH qKB qc198 qn198 6 3000) = true := by decide +kernel
end
section
theorem qk199_e : ack0 qY zIT zmcl qW qPt zMt qKH qKB qc199 qn199 6 3000 = true := by decide +kernel
end
