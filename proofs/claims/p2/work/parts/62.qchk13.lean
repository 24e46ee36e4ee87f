theorem qk195_e : ack0 qY zIT zmcl qW qPt zMt qKH qKB qc195 qn195 12 3000 = true := by decide +kernel
theorem qk195_0 : qn195_0.all (ackN qY zIT zmcl qW qPt zMt qKH qKB qc195 qn195 12 3000) = true := by decide +kernel
theorem qk196_e : ack0 qY zIT zmcl qW qPt zMt qKH qKB qc196 qn196 12 3000 = true := by decide +kernel
theorem qk197_e : ack0 qY zIT zmcl qW qPt zMt qKH qKB qc197 qn197 12 3000 = true := by decide +kernel
theorem qk198_e : ack0 qY zIT zmcl qW qPt zMt qKH qKB qc198 qn198 12 3000 = true := by decide +kernel
theorem qk198_0 : qn198_0.all (ackN qY zIT zmcl qW qPt zMt qKH qKB qc198 qn198 12 3000) = true := by decide +kernel
theorem qk199_e : ack0 qY zIT zmcl qW qPt zMt qKH qKB qc199 qn199 12 3000 = true := by decide +kernel
theorem qk199_0 : qn199_0.all (ackN qY zIT zmcl qW qPt zMt qKH qKB qc199 qn199 12 3000) = true := by decide +kernel
theorem qk200_e : ack0 qY zIT zmcl qW qPt zMt qKH qKB qc200 qn200 12 3000 = true := by decide +kernel
theorem qk200_0 : qn200_0.all (ackN qY zIT zmcl qW qPt zMt qKH qKB qc200 qn200 12 3000) = true := by decide +kernel
theorem qk201_e : ack0 qY zIT zmcl qW qPt zMt qKH qKB qc201 qn201 12 3000 = true := by decide +kernel
theorem qk202_e : ack0 qY zIT zmcl qW qPt zMt qKH qKB qc202 qn202 12 3000 = true := by decide +kernel
theorem qk203_e : ack0 qY zIT zmcl qW qPt zMt qKH qKB qc203 qn203 12 3000 = true := by decide +kernel
theorem qk203_0 : qn203_0.all (ackN qY zIT zmcl qW qPt zMt qKH qKB qc203 qn203 12 3000) = true := by decide +kernel
theorem qk204_e : ack0 qY zIT zmcl qW qPt zMt qKH qKB qc204 qn204 12 3000 = true := by decide +kernel
theorem qk204_0 : qn204_0.all (ackN qY zIT zmcl qW qPt zMt qKH qKB qc204 qn204 12 3000) = true := by decide +kernel
theorem qk205_e : ack0 qY zIT zmcl qW qPt zMt qKH qKB qc205 qn205 12 3000 = true := by decide +kernel
theorem qk205_0 : qn205_0.all (ackN qY zIT zmcl qW qPt zMt qKH qKB qc205 qn205 12 3000) = true := by decide +kernel
theorem qk206_e : ack0 qY zIT zmcl qW qPt zMt qKH qKB qc206 qn206 12 3000 = true := by decide +kernel
theorem qk206_0 : qn206_0.all (ackN qY zIT zmcl qW qPt zMt qKH qKB qc206 qn206 12 3000) = true := by decide +kernel
theorem qk207_e : ack0 qY zIT zmcl qW qPt zMt qKH qKB qc207 qn207 12 3000 = true := by decide +kernel
theorem qk207_0 : qn207_0.all (ackN qY zIT zmcl qW qPt zMt qKH qKB qc207 qn207 12 3000) = true := by decide +kernel
theorem qk208_e : ack0 qY zIT zmcl qW qPt zMt qKH qKB qc208 qn208 12 3000 = true := by decide +kernel
theorem qk208_0 : qn208_0.all (ackN qY zIT zmcl qW qPt zMt qKH qKB qc208 qn208 12 3000) = true := by decide +kernel
theorem qk209_e : ack0 qY zIT zmcl qW qPt zMt qKH qKB qc209 qn209 12 3000 = true := by decide +kernel
theorem qk209_0 : qn209_0.all (ackN qY zIT zmcl qW qPt zMt qKH qKB qc209 qn209 12 3000) = true := by decide +kernel
theorem qk210_e : ack0 qY zIT zmcl qW qPt zMt qKH qKB qc210 qn210 12 3000 = true := by decide +kernel
theorem qk210_0 : qn210_0.all (ackN qY zIT zmcl qW qPt zMt qKH qKB qc210 qn210 12 3000) = true := by decide +kernel
theorem qk211_e : ack0 qY zIT zmcl qW qPt zMt qKH qKB qc211 qn211 12 3000 = true := by decide +kernel
theorem qk211_0 : qn211_0.all (ackN qY zIT zmcl qW qPt zMt qKH qKB qc211 qn211 12 3000) = true := by decide +kernel
