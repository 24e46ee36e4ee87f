/-! Joined: 62.qchk31, 62.qchk32, 62.qchk33, 62.qchk34. -/
section
theorem qk163_e : ack0 qY zIT zmcl qW qPt zMt qKH qKB qc163 qn163 6 3000 = true := by decide +kernel
theorem qk164_e : ack0 qY zIT zmcl qW qPt zMt qKH qKB qc164 qn164 6 3000 = true := by decide +kernel
theorem qk165_e : ack0 qY zIT zmcl qW qPt zMt qKH qKB qc165 qn165 6 3000 = true := by decide +kernel
theorem qk166_e : ack0 qY zIT zmcl qW qPt zMt qKH qKB qc166 qn166 6 3000 = true := by decide +kernel
end
section
theorem qk167_e : ack0 qY zIT zmcl qW qPt zMt qKH qKB qc167 qn167 6 3000 = true := by decide +kernel
theorem qk168_e : ack0 qY zIT zmcl qW qPt zMt qKH qKB qc168 qn168 6 3000 = true := by decide +kernel
theorem qk169_e : ack0 qY zIT zmcl qW qPt zMt qKH qKB qc169 qn169 6 3000 = true := by decide +kernel
theorem qk170_e : ack0 qY zIT zmcl qW qPt zMt qKH qKB qc170 qn170 6 3000 = true := by decide +kernel
theorem qk170_0 : qn170_0.all (ackN qY zIT zmcl qW qPt zMt qKH qKB qc170 qn170 6 3000) = true := by decide +kernel
theorem qk171_e : ack0 qY zIT zmcl qW qPt zMt qKH qKB qc171 qn171 6 3000 = true := by decide +kernel
end
section
theorem qk172_e : ack0 qY zIT zmcl qW qPt zMt qKH qKB qc172 qn172 6 3000 = true := by decide +kernel
theorem qk173_e : ack0 qY zIT zmcl qW qPt zMt qKH qKB qc173 qn173 6 3000 = true := by decide +kernel
theorem qk174_e : ack0 qY zIT zmcl qW qPt zMt qKH qKB qc174 qn174 6 3000 = true := by decide +kernel
theorem qk175_e : ack0 qY zIT zmcl qW qPt zMt qKH qKB qc175 qn175 6 3000 = true := by decide +kernel
theorem qk176_e : ack0 qY zIT zmcl qW qPt zMt qKH qKB qc176 qn176 6 3000 = true := by decide +kernel
theorem qk177_e : ack0 qY zIT zmcl qW qPt zMt qKH qKB qc177 qn177 6 3000 = true := by decide +kernel
end
section
theorem qk178_e : ack0 qY zIT zmcl qW qPt zMt qKH qKB qc178 qn178 6 3000 = true := by decide +kernel
theorem qk179_e : ack0 qY zIT zmcl qW qPt zMt qKH qKB qc179 qn179 6 3000 = true := by decide +kernel
theorem qk180_e : ack0 qY zIT zmcl qW qPt zMt qKH qKB qc180 qn180 6 3000 = true := by decide +kernel
theorem qk181_e : ack0 qY zIT zmcl qW qPt zMt qKH qKB qc181 qn181 6 3000 = true := by decide +kernel
theorem qk182_e : ack0 qY zIT zmcl qW qPt zMt qKH qKB qc182 qn182 6 3000 = true := by decide +kernel
theorem qk183_e : ack0 qY zIT zmcl qW qPt zMt qKH qKB qc183 qn183 6 3000 = true := by decide +kernel
theorem qk184_e : ack0 qY zIT zmcl qW qPt zMt qKH qKB qc184 qn184 6 3000 = true := by decide +kernel
theorem qk185_e : ack0 qY zIT zmcl qW qPt zMt qKH qKB qc185 qn185 6 3000 = true := by decide +kernel
end
