theorem qk175_e : ack0 qY zIT zmcl qW qPt zMt qKH qKB qc175 qn175 6 3000 = true := by decide +kernel
theorem qk175_0 : qn175_0.all (ackN qY zIT zmcl qW qPt zMt qKH qKB qc175 qn175 6 3000) = true := by decide +kernel
theorem qk176_e : ack0 qY zIT zmcl qW qPt zMt qKH qKB qc176 qn176 6 3000 = true := by decide +kernel
theorem qk176_0 : qn176_0.all (ackN qY zIT zmcl qW qPt zMt qKH qKB qc176 qn176 6 3000) = true := by decide +kernel
theorem qk177_e : ack0 qY zIT zmcl qW qPt zMt qKH qKB qc177 qn177 6 3000 = true := by decide +kernel
theorem qk177_0 : qn177_0.all (ackN qY zIT zmcl qW qPt zMt qKH qKB qc177 qn177 6 3000) = true := by decide +kernel
theorem qk178_e : ack0 qY zIT zmcl qW qPt zMt qKH qKB qc178 qn178 6 3000 = true := by decide +kernel
theorem qk178_0 : qn178_0.all (ackN qY zIT zmcl qW qPt zMt qKH qKB qc178 qn178 6 3000) = true := by decide +kernel
theorem qk179_e : ack0 qY zIT zmcl qW qPt zMt qKH qKB qc179 qn179 6 3000 = true := by decide +kernel
theorem qk179_0 : qn179_0.all (ackN qY zIT zmcl qW qPt zMt qKH qKB qc179 qn179 6 3000) = true := by decide +kernel
theorem qk180_e : ack0 qY zIT zmcl qW qPt zMt qKH qKB qc180 qn180 6 3000 = true := by decide +kernel
theorem qk181_e : ack0 qY zIT zmcl qW qPt zMt qKH qKB qc181 qn181 6 3000 = true := by decide +kernel
theorem qk181_0 : qn181_0.all (ackN qY zIT zmcl qW qPt zMt qKH qKB qc181 qn181 6 3000) = true := by decide +kernel
theorem qk182_e : ack0 qY zIT zmcl qW qPt zMt qKH qKB qc182 qn182 6 3000 = true := by decide +kernel
theorem qk182_0 : qn182_0.all (ackN qY zIT zmcl qW qPt zMt qKH qKB qc182 qn182 6 3000) = true := by decide +kernel
theorem qk183_e : ack0 qY zIT zmcl qW qPt zMt qKH qKB qc183 qn183 6 3000 = true := by decide +kernel
theorem qk183_0 : qn183_0.all (ackN qY zIT zmcl qW qPt zMt qKH qKB qc183 qn183 6 3000) = true := by decide +kernel
theorem qk184_e : ack0 qY zIT zmcl qW qPt zMt qKH qKB qc184 qn184 6 3000 = true := by decide +kernel
theorem qk184_0 : qn184_0.all (ackN qY zIT zmcl qW qPt zMt qKH qKB qc184 qn184 6 3000) = true := by decide +kernel
theorem qk185_e : ack0 qY zIT zmcl qW qPt zMt qKH qKB qc185 qn185 6 3000 = true := by decide +kernel
theorem qk185_0 : qn185_0.all (ackN qY zIT zmcl qW qPt zMt qKH qKB qc185 qn185 6 3000) = true := by decide +kernel
theorem qk186_e : ack0 qY zIT zmcl qW qPt zMt qKH qKB qc186 qn186 6 3000 = true := by decide +kernel
