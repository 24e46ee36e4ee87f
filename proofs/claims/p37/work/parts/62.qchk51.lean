/-! Joined: 62.qchk51, 62.qchk52, 62.qchk53. -/
section
theorem qk264_e : ack0 qY zIT zmcl qW qPt zMt qKH qKB qc264 qn264 6 3000 = true := by decide +kernel
theorem qk264_0 : qn264_0.all (ackN qY zIT zmcl qW qPt zMt qKH qKB qc264 qn264 6 3000) = true := by decide +kernel
theorem qk265_e : ack0 qY zIT zmcl qW qPt zMt qKH qKB qc265 qn265 6 3000 = true := by decide +kernel
theorem qk265_0 : qn265_0.all (ackN qY zIT zmcl qW qPt zMt qKH qKB qc265 qn265 6 3000) = true := by decide +kernel
theorem qk266_e : ack0 qY zIT zmcl qW qPt zMt qKH qKB qc266 qn266 6 3000 = true := by decide +kernel
theorem qk266_0 : qn266_0.all (ackN qY zIT zmcl qW qPt zMt qKH qKB qc266 qn266 6 3000) = true := by decide +kernel
theorem qk267_e : ack0 qY zIT zmcl qW qPt zMt qKH qKB qc267 qn267 6 3000 = true := by decide +kernel
theorem qk268_e : ack0 qY zIT zmcl qW qPt zMt qKH qKB qc268 qn268 6 3000 = true := by decide +kernel
theorem qk269_e : ack0 qY zIT zmcl qW qPt zMt qKH qKB qc269 qn269 6 3000 = true := by decide +kernel
theorem qk269_0 : qn269_0.all (ackN qY zIT zmcl qW qPt zMt qKH qKB qc269 qn269 6 3000) = true := by decide +kernel
theorem qk269_1 : qn269_1.all (ackN qY zIT zmcl qW qPt zMt qKH qKB qc269 qn269 6 3000) = true := by decide +kernel
theorem qk269_2 : qn269_2.all (ackN qY zIT zmcl qW qPt zMt qKH qKB qc269 qn269 6 3000) = true := by decide +kernel
end
section
theorem qk270_e : ack0 qY zIT zmcl qW qPt zMt qKH qKB qc270 qn270 6 3000 = true := by decide +kernel
theorem qk270_0 : qn270_0.all (ackN qY zIT zmcl qW qPt zMt qKH qKB qc270 qn270 6 3000) = true := by decide +kernel
theorem qk271_e : ack0 qY zIT zmcl qW qPt zMt qKH qKB qc271 qn271 6 3000 = true := by decide +kernel
theorem qk271_0 : qn271_0.all (ackN qY zIT zmcl qW qPt zMt qKH qKB qc271 qn271 6 3000) = true := by decide +kernel
theorem qk272_e : ack0 qY zIT zmcl qW qPt zMt qKH qKB qc272 qn272 6 3000 = true := by decide +kernel
theorem qk272_0 : qn272_0.all (ackN qY zIT zmcl qW qPt zMt qKH qKB qc272 qn272 6 3000) = true := by decide +kernel
theorem qk273_e : ack0 qY zIT zmcl qW qPt zMt qKH qKB qc273 qn273 6 3000 = true := by decide +kernel
theorem qk273_0 : qn273_0.all (ackN qY zIT zmcl qW qPt zMt qKH qKB qc273 qn273 6 3000) = true := by decide +kernel
theorem qk274_e : ack0 qY zIT zmcl qW qPt zMt qKH qKB qc274 qn274 6 3000 = true := by decide +kernel
end
section
theorem qk275_e : ack0 qY zIT zmcl qW qPt zMt qKH qKB qc275 qn275 6 3000 = true := by decide +kernel
end
