theorem qk264_e : ack0 qY zIT zmcl qW qPt zMt qKH qKB qc264 qn264 6 3000 = true := by decide +kernel
theorem qk264_0 : qn264_0.all (ackN qY zIT zmcl qW qPt zMt qKH qKB qc264 qn264 6 3000) = true := by decide +kernel
theorem qk265_e : ack0 qY zIT zmcl qW qPt zMt qKH qKB qc265 qn265 6 3000 = true := by decide +kernel
theorem qk265_0 : qn265_0.all (ackN qY zIT zmcl qW qPt zMt qKH qKB qc265 qn265 6 3000) = true := by decide +kernel
theorem qk266_e : ack0 qY zIT zmcl qW qPt zMt qKH qKB qc266 qn266 6 3000 = true := by decide +kernel
theorem qk266_0 : qn266_0.all (ackN qY zIT zmcl qW qPt zMt qKH qKB qc266 qn266 6 3000) = true := by decide +kernel
theorem qk267_e : ack0 qY zIT zmcl qW qPt zMt qKH qKB qc267 qn267 6 3000 = true := by decide +kernel
theorem qk268_e : ack0 qY zIT zmcl qW qPt zMt qKH qKB qc268 qn268 6 3000 = true := by decide +kernel
theorem qk269_e : ack0 qY zIT zmcl qW qPt zMt qKH qKB qc269 qn269 6 3000 = true := by decide +kernel
theorem qk269_0 : qn269_0.all (ackN qY zIT zmcl qW qPt zMt qKH qKB qc269 qn269 6 3000) = true := by decide +kernel
theorem qk269_1 : qn269_1.all (ackN qY zIT zmcl qW qPt zMt qKH qKB qc269 qn269 6 3000) = true := by decide +kernel
theorem qk269_2 : qn269_2.all (ackN qY zIT zmcl qW qPt zMt qKH qKB qc269 qn269 6 3000) = true := by decide +kernel
