theorem qk213_e : ack0 qY zIT zmcl qW qPt zMt qKH qKB qc213 qn213 6 3000 = true := by decide +kernel
theorem qk213_0 : qn213_0.all (ackN qY zIT zmcl qW qPt zMt qKH qKB qc213 qn213 6 3000) = true := by decide +kernel
theorem qk214_e : ack0 qY zIT zmcl qW qPt zMt qKH qKB qc214 qn214 6 3000 = true := by decide +kernel
theorem qk214_0 : qn214_0.all (ackN qY zIT zmcl qW qPt zMt qKH qKB qc214 qn214 6 3000) = true := by decide +kernel
theorem qk215_e : ack0 qY zIT zmcl qW qPt zMt qKH qKB qc215 qn215 6 3000 = true := by decide +kernel
theorem qk216_e : ack0 qY zIT zmcl qW qPt zMt qKH qKB qc216 qn216 6 3000 = true := by decide +kernel
theorem qk216_0 : qn216_0.all (ackN qY zIT zmcl qW qPt zMt qKH qKB qc216 qn216 6 3000) = true := by decide +kernel
theorem qk217_e : ack0 qY zIT zmcl qW qPt zMt qKH qKB qc217 qn217 6 3000 = true := by decide +kernel
theorem qk217_0 : qn217_0.all (ackN qY zIT zmcl qW qPt zMt qKH qKB qc217 qn217 6 3000) = true := by decide +kernel
theorem qk218_e : ack0 qY zIT zmcl qW qPt zMt qKH qKB qc218 qn218 6 3000 = true := by decide +kernel
theorem qk218_0 : qn218_0.all (ackN qY zIT zmcl qW qPt zMt qKH qKB qc218 qn218 6 3000) = true := by decide +kernel
theorem qk218_1 : qn218_1.all (ackN qY zIT zmcl qW qPt zMt qKH qKB qc218 qn218 6 3000) = true := by decide +kernel
