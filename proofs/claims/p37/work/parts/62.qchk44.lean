/-! Joined: 62.qchk44, 62.qchk45, 62.qchk46. -/
section
theorem qk219_e : ack0 qY zIT zmcl qW qPt zMt qKH qKB qc219 qn219 6 3000 = true := by decide +kernel
theorem qk219_0 : qn219_0.all (ackN qY zIT zmcl qW qPt zMt qKH qKB qc219 qn219 6 3000) = true := by decide +kernel
theorem qk220_e : ack0 qY zIT zmcl qW qPt zMt qKH qKB qc220 qn220 6 3000 = true := by decide +kernel
theorem qk220_0 : qn220_0.all (ackN qY zIT zmcl qW qPt zMt qKH qKB qc220 qn220 6 3000) = true := by decide +kernel
theorem qk221_e : ack0 qY zIT zmcl qW qPt zMt qKH qKB qc221 qn221 6 3000 = true := by decide +kernel
theorem qk221_0 : qn221_0.all (ackN qY zIT zmcl qW qPt zMt qKH qKB qc221 qn221 6 3000) = true := by decide +kernel
end
section
theorem qk222_e : ack0 qY zIT zmcl qW qPt zMt qKH qKB qc222 qn222 6 3000 = true := by decide +kernel
theorem qk223_e : ack0 qY zIT zmcl qW qPt zMt qKH qKB qc223 qn223 6 3000 = true := by decide +kernel
theorem qk223_0 : qn223_0.all (ackN qY zIT zmcl qW qPt zMt qKH qKB qc223 qn223 6 3000) = true := by decide +kernel
theorem qk224_e : ack0 qY zIT zmcl qW qPt zMt qKH qKB qc224 qn224 6 3000 = true := by decide +kernel
theorem qk224_0 : qn224_0.all (ackN qY zIT zmcl qW qPt zMt qKH qKB qc224 qn224 6 3000) = true := by decide +kernel
end
section
theorem qk225_e : ack0 qY zIT zmcl qW qPt zMt qKH qKB qc225 qn225 6 3000 = true := by decide +kernel
theorem qk225_0 : qn225_0.all (ackN qY zIT zmcl qW qPt zMt qKH qKB qc225 qn225 6 3000) = true := by decide +kernel
theorem qk226_e : ack0 qY zIT zmcl qW qPt zMt qKH qKB qc226 qn226 6 3000 = true := by decide +kernel
theorem qk226_0 : qn226_0.all (ackN qY zIT zmcl qW qPt zMt qKH qKB qc226 qn226 6 3000) = true := by decide +kernel
theorem qk227_e : ack0 qY zIT zmcl qW qPt zMt qKH qKB qc227 qn227 6 3000 = true := by decide +kernel
theorem qk227_0 : qn227_0.all (ackN qY zIT zmcl qW qPt zMt qKH qKB qc227 qn227 6 3000) = true := by decide +kernel
theorem qk228_e : ack0 qY zIT zmcl qW qPt zMt qKH qKB qc228 qn228 6 3000 = true := by decide +kernel
theorem qk228_0 : qn228_0.all (ackN qY zIT zmcl qW qPt zMt qKH qKB qc228 qn228 6 3000) = true := by decide +kernel
theorem qk229_e : ack0 qY zIT zmcl qW qPt zMt qKH qKB qc229 qn229 6 3000 = true := by decide +kernel
theorem qk229_0 : qn229_0.all (ackN qY zIT zmcl qW qPt zMt qKH qKB qc229 qn229 6 3000) = true := by decide +kernel
theorem qk230_e : ack0 qY zIT zmcl qW qPt zMt qKH qKB qc230 qn230 6 3000 = true := by decide +kernel
theorem qk230_0 : qn230_0.all (ackN qY zIT zmcl qW qPt zMt qKH qKB qc230 qn230 6 3000) = true := by decide +kernel
theorem qk231_e : ack0 qY zIT zmcl qW qPt zMt qKH qKB qc231 qn231 6 3000 = true := by decide +kernel
theorem qk232_e : ack0 qY zIT zmcl qW qPt zMt qKH qKB qc232 qn232 6 3000 = true := by decide +kernel
theorem qk232_0 : qn232_0.all (ackN qY zIT zmcl qW qPt zMt qKH qKB qc232 qn232 6 3000) = true := by decide +kernel
theorem qk233_e : ack0 qY zIT zmcl qW qPt zMt qKH qKB qc233 qn233 6 3000 = true := by decide +kernel
theorem qk233_0 : qn233_0.all (ackN qY zIT zmcl qW qPt zMt qKH qKB qc233 qn233 6 3000) = true := by decide +kernel
theorem qk234_e : ack0 qY zIT zmcl qW qPt zMt qKH qKB qc234 qn234 6 3000 = true := by decide +kernel
theorem qk234_0 : qn234_0.all (ackN qY zIT zmcl qW qPt zMt qKH qKB qc234 qn234 6 3000) = true := by decide +kernel
theorem qk235_e : ack0 qY zIT zmcl qW qPt zMt qKH qKB qc235 qn235 6 3000 = true := by decide +kernel
theorem qk235_0 : qn235_0.all (ackN qY zIT zmcl qW qPt zMt qKH qKB qc235 qn235 6 3000) = true := by decide +kernel
theorem qk236_e : ack0 qY zIT zmcl qW qPt zMt qKH qKB qc236 qn236 6 3000 = true := by decide +kernel
theorem qk236_0 : qn236_0.all (ackN qY zIT zmcl qW qPt zMt qKH qKB qc236 qn236 6 3000) = true := by decide +kernel
theorem qk237_e : ack0 qY zIT zmcl qW qPt zMt qKH qKB qc237 qn237 6 3000 = true := by decide +kernel
end
