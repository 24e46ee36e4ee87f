theorem qk275_e : ack0 qY zIT zmcl qW qPt zMt qKH qKB qc275 qn275 6 3000 = true := by decide +kernel
