theorem qk108_e : ack0 qY zIT zmcl qW qPt zMt qKH qKB qc108 qn108 6 3000 = true := by decide +kernel
theorem qk108_0 : qn108_0.all (ackN qY zIT zmcl qW qPt zMt qKH qKB qc108 qn108 6 3000) = true := by decide +kernel
theorem qk109_e : ack0 qY zIT zmcl qW qPt zMt qKH qKB qc109 qn109 6 3000 = true := by decide +kernel
theorem qk109_0 : qn109_0.all (ackN qY zIT zmcl qW qPt zMt qKH qKB qc109 qn109 6 3000) = true := by decide +kernel
theorem qk110_e : ack0 qY zIT zmcl qW qPt zMt qKH qKB qc110 qn110 6 3000 = true := by decide +kernel
theorem qk110_0 : qn110_0.all (ackN qY zIT zmcl qW qPt zMt qKH qKB qc110 qn110 6 3000) = true := by decide +kernel
