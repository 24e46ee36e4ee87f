/-! Joined: 62.qchk47, 62.qchk48, 62.qchk49, 62.qchk50. -/
section
theorem qk238_e : ack0 qY zIT zmcl qW qPt zMt qKH qKB qc238 qn238 6 3000 = true := by decide +kernel
theorem qk239_e : ack0 qY zIT zmcl qW qPt zMt qKH qKB qc239 qn239 6 3000 = true := by decide +kernel
theorem qk240_e : ack0 qY zIT zmcl qW qPt zMt qKH qKB qc240 qn240 6 3000 = true := by decide +kernel
theorem qk241_e : ack0 qY zIT zmcl qW qPt zMt qKH qKB qc241 qn241 6 3000 = true := by decide +kernel
theorem qk242_e : ack0 qY zIT zmcl qW qPt zMt qKH qKB qc242 qn242 6 3000 = true := by decide +kernel
theorem qk243_e : ack0 qY zIT zmcl qW qPt zMt qKH qKB qc243 qn243 6 3000 = true := by decide +kernel
theorem qk243_0 : qn243_0.all (ackN qY zIT zmcl qW qPt zMt qKH qKB qc243 qn243 6 3000) = true := by decide +kernel
end
section
theorem qk244_e : ack0 qY zIT zmcl qW qPt zMt qKH qKB qc244 qn244 6 3000 = true := by decide +kernel
theorem qk245_e : ack0 qY zIT zmcl qW qPt zMt qKH qKB qc245 qn245 6 3000 = true := by decide +kernel
theorem qk245_0 : qn245_0.all (ackN qY zIT zmcl qW qPt zMt qKH qKB qc245 qn245 6 3000) = true := by decide +kernel
theorem qk246_e : ack0 qY zIT zmcl qW qPt zMt qKH qKB qc246 qn246 6 3000 = true := by decide +kernel
theorem qk246_0 : qn246_0.all (ackN qY zIT zmcl qW qPt zMt qKH qKB qc246 qn246 6 3000) = true := by decide +kernel
theorem qk247_e : ack0 qY zIT zmcl qW qPt zMt qKH qKB qc247 qn247 6 3000 = true := by decide +kernel
theorem qk248_e : ack0 qY zIT zmcl qW qPt zMt qKH qKB qc248 qn248 6 3000 = true := by decide +kernel
theorem qk249_e : ack0 qY zIT zmcl qW qPt zMt qKH qKB qc249 qn249 6 3000 = true := by decide +kernel
theorem qk249_0 : qn249_0.all (ackN qY zIT zmcl qW qPt zMt qKH qKB qc249 qn249 6 3000) = true := by decide +kernel
theorem qk250_e : ack0 qY zIT zmcl qW qPt zMt qKH qKB qc250 qn250 6 3000 = true := by decide +kernel
theorem qk250_0 : qn250_0.all (ackN qY zIT zmcl qW qPt zMt qKH qKB qc250 qn250 6 3000) = true := by decide +kernel
end
section
theorem qk251_e : ack0 qY zIT zmcl qW qPt zMt qKH qKB qc251 qn251 6 3000 = true := by decide +kernel
theorem qk251_0 : qn251_0.all (ackN qY zIT zmcl qW qPt zMt qKH qKB qc251 qn251 6 3000) = true := by decide +kernel
theorem qk252_e : ack0 qY zIT zmcl qW qPt zMt qKH qKB qc252 qn252 6 3000 = true := by decide +kernel
theorem qk253_e : ack0 qY zIT zmcl qW qPt zMt qKH qKB qc253 qn253 6 3000 = true := by decide +kernel
theorem qk254_e : ack0 qY zIT zmcl qW qPt zMt qKH qKB qc254 qn254 6 3000 = true := by decide +kernel
theorem qk254_0 : qn254_0.all (ackN qY zIT zmcl qW qPt zMt qKH qKB qc254 qn254 6 3000) = true := by decide +kernel
theorem qk255_e : ack0 qY zIT zmcl qW qPt zMt qKH qKB qc255 qn255 6 3000 = true := by decide +kernel
theorem qk255_0 : qn255_0.all (ackN qY zIT zmcl qW qPt zMt qKH qKB qc255 qn255 6 3000) = true := by decide +kernel
theorem qk256_e : ack0 qY zIT zmcl qW qPt zMt qKH qKB qc256 qn256 6 3000 = true := by decide +kernel
theorem qk256_0 : qn256_0.all (ackN qY zIT zmcl qW qPt zMt qKH qKB qc256 qn256 6 3000) = true := by decide +kernel
end
section
theorem qk257_e : ack0 qY zIT zmcl qW qPt zMt qKH qKB qc257 qn257 6 3000 = true := by decide +kernel
theorem qk257_0 : qn257_0.all (ackN qY zIT zmcl qW qPt zMt qKH qKB qc257 qn257 6 3000) = true := by decide +kernel
theorem qk258_e : ack0 qY zIT zmcl qW qPt zMt qKH qKB qc258 qn258 6 3000 = true := by decide +kernel
theorem qk258_0 : qn258_0.all (ackN qY zIT zmcl qW qPt zMt qKH qKB qc258 qn258 6 3000) = true := by decide +kernel
theorem qk259_e : ack0 qY zIT zmcl qW qPt zMt qKH qKB qc259 qn259 6 3000 = true := by decide +kernel
theorem qk259_0 : qn259_0.all (ackN qY zIT zmcl qW qPt zMt qKH qKB qc259 qn259 6 3000) = true := by decide +kernel
theorem qk260_e : ack0 qY zIT zmcl qW qPt zMt qKH qKB qc260 qn260 6 3000 = true := by decide +kernel
theorem qk260_0 : qn260_0.all (ackN qY zIT zmcl qW qPt zMt qKH qKB qc260 qn260 6 3000) = true := by decide +kernel
theorem qk261_e : ack0 qY zIT zmcl qW qPt zMt qKH qKB qc261 qn261 6 3000 = true := by decide +kernel
theorem qk261_0 : qn261_0.all (ackN qY zIT zmcl qW qPt zMt qKH qKB qc261 qn261 6 3000) = true := by decide +kernel
theorem qk262_e : ack0 qY zIT zmcl qW qPt zMt qKH qKB qc262 qn262 6 3000 = true := by decide +kernel
theorem qk262_0 : qn262_0.all (ackN qY zIT zmcl qW qPt zMt qKH qKB qc262 qn262 6 3000) = true := by decide +kernel
theorem qk263_e : ack0 qY zIT zmcl qW qPt zMt qKH qKB qc263 qn263 6 3000 = true := by decide +kernel
theorem qk263_0 : qn263_0.all (ackN qY zIT zmcl qW qPt zMt qKH qKB qc263 qn263 6 3000) = true := by decide +kernel
end
