theorem qk212_e : ack0 qY zIT zmcl qW qPt zMt qKH qKB qc212 qn212 12 3000 = true := by decide +kernel
theorem qk212_0 : qn212_0.all (ackN qY zIT zmcl qW qPt zMt qKH qKB qc212 qn212 12 3000) = true := by decide +kernel
theorem qk213_e : ack0 qY zIT zmcl qW qPt zMt qKH qKB qc213 qn213 12 3000 = true := by decide +kernel
theorem qk213_0 : qn213_0.all (ackN qY zIT zmcl qW qPt zMt qKH qKB qc213 qn213 12 3000) = true := by decide +kernel
theorem qk214_e : ack0 qY zIT zmcl qW qPt zMt qKH qKB qc214 qn214 12 3000 = true := by decide +kernel
theorem qk214_0 : qn214_0.all (ackN qY zIT zmcl qW qPt zMt qKH qKB qc214 qn214 12 3000) = true := by decide +kernel
theorem qk215_e : ack0 qY zIT zmcl qW qPt zMt qKH qKB qc215 qn215 12 3000 = true := by decide +kernel
theorem qk215_0 : qn215_0.all (ackN qY zIT zmcl qW qPt zMt qKH qKB qc215 qn215 12 3000) = true := by decide +kernel
theorem qk216_e : ack0 qY zIT zmcl qW qPt zMt qKH qKB qc216 qn216 12 3000 = true := by decide +kernel
theorem qk217_e : ack0 qY zIT zmcl qW qPt zMt qKH qKB qc217 qn217 12 3000 = true := by decide +kernel
theorem qk218_e : ack0 qY zIT zmcl qW qPt zMt qKH qKB qc218 qn218 12 3000 = true := by decide +kernel
theorem qk218_0 : qn218_0.all (ackN qY zIT zmcl qW qPt zMt qKH qKB qc218 qn218 12 3000) = true := by decide +kernel
theorem qk219_e : ack0 qY zIT zmcl qW qPt zMt qKH qKB qc219 qn219 12 3000 = true := by decide +kernel
theorem qk219_0 : qn219_0.all (ackN qY zIT zmcl qW qPt zMt qKH qKB qc219 qn219 12 3000) = true := by decide +kernel
theorem qk220_e : ack0 qY zIT zmcl qW qPt zMt qKH qKB qc220 qn220 12 3000 = true := by decide +kernel
theorem qk220_0 : qn220_0.all (ackN qY zIT zmcl qW qPt zMt qKH qKB qc220 qn220 12 3000) = true := by decide +kernel
theorem qk221_e : ack0 qY zIT zmcl qW qPt zMt qKH qKB qc221 qn221 12 3000 = true := by decide +kernel
theorem qk221_0 : qn221_0.all (ackN qY zIT zmcl qW qPt zMt qKH qKB qc221 qn221 12 3000) = true := by decide +kernel
theorem qk222_e : ack0 qY zIT zmcl qW qPt zMt qKH qKB qc222 qn222 12 3000 = true := by decide +kernel
theorem qk222_0 : qn222_0.all (ackN qY zIT zmcl qW qPt zMt qKH qKB qc222 qn222 12 3000) = true := by decide +kernel
