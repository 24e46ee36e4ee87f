/-! Joined: 62.qchk35, 62.qchk36, 62.qchk37. -/
section
theorem qk186_e : ack0 qY zIT zmcl qW qPt zMt qKH qKB qc186 qn186 6 3000 = true := by decide +kernel
theorem qk187_e : ack0 qY zIT zmcl qW qPt zMt qKH qKB qc187 qn187 6 3000 = true := by decide +kernel
theorem qk188_e : ack0 qY zIT zmcl qW qPt zMt qKH qKB qc188 qn188 6 3000 = true := by decide +kernel
theorem qk189_e : ack0 qY zIT zmcl qW qPt zMt qKH qKB qc189 qn189 6 3000 = true := by decide +kernel
theorem qk190_e : ack0 qY zIT zmcl qW qPt zMt qKH qKB qc190 qn190 6 3000 = true := by decide +kernel
theorem qk191_e : ack0 qY zIT zmcl qW qPt zMt qKH qKB qc191 qn191 6 3000 = true := by decide +kernel
theorem qk192_e : ack0 qY zIT zmcl qW qPt zMt qKH qKB qc192 qn192 6 3000 = true := by decide +kernel
theorem qk193_e : ack0 qY zIT zmcl qW qPt zMt qKH qKB qc193 qn193 6 3000 = true := by decide +kernel
theorem qk194_e : ack0 qY zIT zmcl qW qPt zMt qKH qKB qc194 qn194 6 3000 = true := by decide +kernel
end
section
theorem qk195_e : ack0 qY zIT zmcl qW qPt zMt qKH qKB qc195 qn195 6 3000 = true := by decide +kernel
theorem qk196_e : ack0 qY zIT zmcl qW qPt zMt qKH qKB qc196 qn196 6 3000 = true := by decide +kernel
theorem qk196_0 : qn196_0.all (ackN qY zIT zmcl qW qPt zMt qKH qKB qc196 qn196 6 3000) = true := by decide +kernel
theorem qk197_e : ack0 qY zIT zmcl qW qPt zMt qKH qKB qc197 qn197 6 3000 = true := by decide +kernel
theorem qk197_0 : qn197_0.all (ackN qY zIT zmcl qW qPt zMt qKH qKB qc197 qn197 6 3000) = true := by decide +kernel
end
section
theorem qk198_e : ack0 qY zIT zmcl qW qPt zMt qKH qKB qc198 qn198 6 3000 = true := by decide +kernel
end
