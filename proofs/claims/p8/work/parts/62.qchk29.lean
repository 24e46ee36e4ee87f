theorem qk144_e : ack0 qY zIT zmcl qW qPt zMt qKH qKB qc144 qn144 6 3000 = true := by decide +kernel
theorem qk145_e : ack0 qY zIT zmcl qW qPt zMt qKH qKB qc145 qn145 6 3000 = true := by decide +kernel
theorem qk146_e : ack0 qY zIT zmcl qW qPt zMt qKH qKB qc146 qn146 6 3000 = true := by decide +kernel
theorem qk147_e : ack0 qY zIT zmcl qW qPt zMt qKH qKB qc147 qn147 6 3000 = true := by decide +kernel
theorem qk148_e : ack0 qY zIT zmcl qW qPt zMt qKH qKB qc148 qn148 6 3000 = true := by decide +kernel
theorem qk149_e : ack0 qY zIT zmcl qW qPt zMt qKH qKB qc149 qn149 6 3000 = true := by decide +kernel
theorem qk150_e : ack0 qY zIT zmcl qW qPt zMt qKH qKB qc150 qn150 6 3000 = true := by decide +kernel
theorem qk151_e : ack0 qY zIT zmcl qW qPt zMt qKH qKB qc151 qn151 6 3000 = true := by decide +kernel
