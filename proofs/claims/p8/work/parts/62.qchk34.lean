theorem qk178_e : ack0 qY zIT zmcl qW qPt zMt qKH qKB qc178 qn178 6 3000 = true := by decide +kernel
theorem qk179_e : ack0 qY zIT zmcl qW qPt zMt qKH qKB qc179 qn179 6 3000 = true := by decide +kernel
theorem qk180_e : ack0 qY zIT zmcl qW qPt zMt qKH qKB qc180 qn180 6 3000 = true := by decide +kernel
theorem qk181_e : ack0 qY zIT zmcl qW qPt zMt qKH qKB qc181 qn181 6 3000 = true := by decide +kernel
theorem qk182_e : ack0 qY zIT zmcl qW qPt zMt qKH qKB qc182 qn182 6 3000 = true := by decide +kernel
theorem qk183_e : ack0 qY zIT zmcl qW qPt zMt qKH qKB qc183 qn183 6 3000 = true := by decide +kernel
theorem qk184_e : ack0 qY zIT zmcl qW qPt zMt qKH qKB qc184 qn184 6 3000 = true := by decide +kernel
theorem qk185_e : ack0 qY zIT zmcl qW qPt zMt qKH qKB qc185 qn185 6 3000 = true := by decide +kernel
