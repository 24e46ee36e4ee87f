theorem qk187_e : ack0 qY zIT zmcl qW qPt zMt qKH qKB qc187 qn187 6 3000 = true := by decide +kernel
theorem qk188_e : ack0 qY zIT zmcl qW qPt zMt qKH qKB qc188 qn188 6 3000 = true := by decide +kernel
theorem qk189_e : ack0 qY zIT zmcl qW qPt zMt qKH qKB qc189 qn189 6 3000 = true := by decide +kernel
theorem qk190_e : ack0 qY zIT zmcl qW qPt zMt qKH qKB qc190 qn190 6 3000 = true := by decide +kernel
theorem qk191_e : ack0 qY zIT zmcl qW qPt zMt qKH qKB qc191 qn191 6 3000 = true := by decide +kernel
theorem qk192_e : ack0 qY zIT zmcl qW qPt zMt qKH qKB qc192 qn192 6 3000 = true := by decide +kernel
theorem qk192_0 : qn192_0.all (ackN qY zIT zmcl qW qPt zMt qKH qKB qc192 qn192 6 3000) = true := by decide +kernel
