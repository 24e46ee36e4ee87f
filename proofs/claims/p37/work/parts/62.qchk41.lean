/-! Joined: 62.qchk41, 62.qchk42, 62.qchk43. -/
section
theorem qk200_e : ack0 qY zIT zmcl qW qPt zMt qKH qKB qc200 qn200 6 3000 = true := by decide +kernel
theorem qk201_e : ack0 qY zIT zmcl qW qPt zMt qKH qKB qc201 qn201 6 3000 = true := by decide +kernel
theorem qk202_e : ack0 qY zIT zmcl qW qPt zMt qKH qKB qc202 qn202 6 3000 = true := by decide +kernel
theorem qk203_e : ack0 qY zIT zmcl qW qPt zMt qKH qKB qc203 qn203 6 3000 = true := by decide +kernel
theorem qk204_e : ack0 qY zIT zmcl qW qPt zMt qKH qKB qc204 qn204 6 3000 = true := by decide +kernel
theorem qk205_e : ack0 qY zIT zmcl qW qPt zMt qKH qKB qc205 qn205 6 3000 = true := by decide +kernel
theorem qk206_e : ack0 qY zIT zmcl qW qPt zMt qKH qKB qc206 qn206 6 3000 = true := by decide +kernel
theorem qk206_0 : qn206_0.all (ackN qY zIT zmcl qW qPt zMt qKH qKB qc206 qn206 6 3000) = true := by decide +kernel
end
section
theorem qk207_e : ack0 qY zIT zmcl qW qPt zMt qKH qKB qc207 qn207 6 3000 = true := by decide +kernel
theorem qk207_0 : qn207_0.all (ackN qY zIT zmcl qW qPt zMt qKH qKB qc207 qn207 6 3000) = true := by decide +kernel
theorem qk208_e : ack0 qY zIT zmcl qW qPt zMt qKH qKB qc208 qn208 6 3000 = true := by decide +kernel
theorem qk208_0 : qn208_0.all (ackN qY zIT zmcl qW qPt zMt qKH qKB qc208 qn208 6 3000) = true := by decide +kernel
theorem qk209_e : ack0 qY zIT zmcl qW qPt zMt qKH qKB qc209 qn209 6 3000 = true := by decide +kernel
theorem qk209_0 : qn209_0.all (ackN qY zIT zmcl qW qPt zMt qKH qKB qc209 qn209 6 3000) = true := by decide +kernel
theorem qk210_e : ack0 qY zIT zmcl qW qPt zMt qKH qKB qc210 qn210 6 3000 = true := by decide +kernel
theorem qk210_0 : qn210_0.all (ackN qY zIT zmcl qW qPt zMt qKH qKB qc210 qn210 6 3000) = true := by decide +kernel
theorem qk211_e : ack0 qY zIT zmcl qW qPt zMt qKH qKB qc211 qn211 6 3000 = true := by decide +kernel
theorem qk211_0 : qn211_0.all (ackN qY zIT zmcl qW qPt zMt qKH qKB qc211 qn211 6 3000) = true := by decide +kernel
theorem qk212_e : ack0 qY zIT zmcl qW qPt zMt qKH qKB qc212 qn212 6 3000 = true := by decide +kernel
theorem qk212_0 : qn212_0.all (ackN qY zIT zmcl qW qPt zMt qKH qKB qc212 qn212 6 3000) = true := by decide +kernel
end
section
theorem qk213_e : ack0 qY zIT zmcl qW qPt zMt qKH qKB qc213 qn213 6 3000 = true := by decide +kernel
theorem qk213_0 : qn213_0.all (ackN qY zIT zmcl qW qPt zMt qKH qKB qc213 qn213 6 3000) = true := by decide +kernel
theorem qk214_e : ack0 qY zIT zmcl qW qPt zMt qKH qKB qc214 qn214 6 3000 = true := by decide +kernel
theorem qk214_0 : qn214_0.all (ackN qY zIT zmcl qW qPt zMt qKH qKB qc214 qn214 6 3000) = true := by decide +kernel
theorem qk215_e : ack0 qY zIT zmcl qW qPt zMt qKH qKB qc215 qn215 6 3000 = true := by decide +kernel
theorem qk216_e : ack0 qY zIT zmcl qW qPt zMt qKH qKB qc216 qn216 6 3000 = true := by decide +kernel
theorem qk216_0 : qn216_0.all (ackN qY zIT zmcl qW qPt zMt qKH qKB qc216 qn216 6 3000) = true := by decide +kernel
theorem qk217_e : ack0 qY zIT zmcl qW qPt zMt qKH qKB qc217 qn217 6 3000 = true := by decide +kernel
theorem qk217_0 : qn217_0.all (ackN qY zIT zmcl qW qPt zMt qKH qKB qc217 qn217 6 3000) = true := by decide +kernel
theorem qk218_e : ack0 qY zIT zmcl qW qPt zMt qKH qKB qc218 qn218 6 3000 = true := by decide +kernel
theorem qk218_0 : qn218_0.all (ackN qY zIT zmcl qW qPt zMt qKH qKB qc218 qn218 6 3000) = true := by decide +kernel
theorem qk218_1 : qn218_1.all (ackN qY zIT zmcl qW qPt zMt qKH qKB qc218 qn218 6 3000) = true := by decide +kernel
end
