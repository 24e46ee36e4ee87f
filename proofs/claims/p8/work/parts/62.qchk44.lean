theorem qk219_e : ack0 qY zIT zmcl qW qPt zMt qKH qKB qc219 qn219 6 3000 = true := by decide +kernel
theorem qk219_0 : qn219_0.all (ackN qY zIT zmcl qW qPt zMt qKH qKB qc219 qn219 6 3000) = true := by decide +kernel
theorem qk220_e : ack0 qY zIT zmcl qW qPt zMt qKH qKB qc220 qn220 6 3000 = true := by decide +kernel
theorem qk220_0 : qn220_0.all (ackN qY zIT zmcl qW qPt zMt qKH qKB qc220 qn220 6 3000) = true := by decide +kernel
theorem qk221_e : ack0 qY zIT zmcl qW qPt zMt qKH qKB qc221 qn221 6 3000 = true := by decide +kernel
theorem qk221_0 : qn221_0.all (ackN qY zIT zmcl qW qPt zMt qKH qKB qc221 qn221 6 3000) = true := by decide +kernel
