theorem qk109_e : ack0 qY zIT zmcl qW qPt zMt qKH qKB qc109 qn109 6 3000 = true := by decide +kernel
theorem qk110_e : ack0 qY zIT zmcl qW qPt zMt qKH qKB qc110 qn110 6 3000 = true := by decide +kernel
theorem qk111_e : ack0 qY zIT zmcl qW qPt zMt qKH qKB qc111 qn111 6 3000 = true := by decide +kernel
theorem qk112_e : ack0 qY zIT zmcl qW qPt zMt qKH qKB qc112 qn112 6 3000 = true := by decide +kernel
theorem qk113_e : ack0 qY zIT zmcl qW qPt zMt qKH qKB qc113 qn113 6 3000 = true := by decide +kernel
theorem qk113_0 : qn113_0.all (ackN qY zIT zmcl qW qPt zMt qKH qKB qc113 qn113 6 3000) = true := by decide +kernel
theorem qk113_1 : qn113_1.all (ackN qY zIT zmcl qW qPt zMt qKH qKB qc113 qn113 6 3000) = true := by decide +kernel
theorem qk113_2 : qn113_2.all (ackN qY zIT zmcl qW qPt zMt qKH qKB qc113 qn113 6 3000) = true := by decide +kernel
