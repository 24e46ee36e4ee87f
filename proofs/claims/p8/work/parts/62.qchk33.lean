theorem qk172_e : ack0 qY zIT zmcl qW qPt zMt qKH qKB qc172 qn172 6 3000 = true := by decide +kernel
theorem qk173_e : ack0 qY zIT zmcl qW qPt zMt qKH qKB qc173 qn173 6 3000 = true := by decide +kernel
theorem qk174_e : ack0 qY zIT zmcl qW qPt zMt qKH qKB qc174 qn174 6 3000 = true := by decide +kernel
theorem qk175_e : ack0 qY zIT zmcl qW qPt zMt qKH qKB qc175 qn175 6 3000 = true := by decide +kernel
theorem qk176_e : ack0 qY zIT zmcl qW qPt zMt qKH qKB qc176 qn176 6 3000 = true := by decide +kernel
theorem qk177_e : ack0 qY zIT zmcl qW qPt zMt qKH qKB qc177 qn177 6 3000 = true := by decide +kernel
