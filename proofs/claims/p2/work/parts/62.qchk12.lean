theorem qk109_e : ack0 qY zIT zmcl qW qPt zMt qKH qKB qc109 qn109 12 3000 = true := by decide +kernel
theorem qk110_e : ack0 qY zIT zmcl qW qPt zMt qKH qKB qc110 qn110 12 3000 = true := by decide +kernel
theorem qk111_e : ack0 qY zIT zmcl qW qPt zMt qKH qKB qc111 qn111 12 3000 = true := by decide +kernel
theorem qk112_e : ack0 qY zIT zmcl qW qPt zMt qKH qKB qc112 qn112 12 3000 = true := by decide +kernel
theorem qk113_e : ack0 qY zIT zmcl qW qPt zMt qKH qKB qc113 qn113 12 3000 = true := by decide +kernel
theorem qk113_0 : qn113_0.all (ackN qY zIT zmcl qW qPt zMt qKH qKB qc113 qn113 12 3000) = true := by decide +kernel
