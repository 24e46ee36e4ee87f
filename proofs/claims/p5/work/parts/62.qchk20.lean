theorem qk109_e : ack0 qY zIT zmcl qW qPt zMt qKH qKB qc109 qn109 6 3000 = true := by decide +kernel
theorem qk110_e : ack0 qY zIT zmcl qW qPt zMt qKH qKB qc110 qn110 6 3000 = true := by decide +kernel
theorem qk111_e : ack0 qY zIT zmcl qW qPt zMt qKH qKB qc111 qn111 6 3000 = true := by decide +kernel
theorem qk112_e : ack0 qY zIT zmcl qW qPt zMt qKH qKB qc112 qn112 6 3000 = true := by decide +kernel
