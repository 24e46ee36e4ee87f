/-! Joined: 62.qchk28, 62.qchk29, 62.qchk30. -/
section
theorem qk143_2 : qn143_2.all (ackN qY zIT zmcl qW qPt zMt qKH qKB qc143 qn143 6 3000) = true := by decide +kernel
end
section
theorem qk144_e : ack0 qY zIT zmcl qW qPt zMt qKH qKB qc144 qn144 6 3000 = true := by decide +kernel
theorem qk145_e : ack0 qY zIT zmcl qW qPt zMt qKH qKB qc145 qn145 6 3000 = true := by decide +kernel
theorem qk146_e : ack0 qY zIT zmcl qW qPt zMt qKH qKB qc146 qn146 6 3000 = true := by decide +kernel
theorem qk147_e : ack0 qY zIT zmcl qW qPt zMt qKH qKB qc147 qn147 6 3000 = true := by decide +kernel
theorem qk148_e : ack0 qY zIT zmcl qW qPt zMt qKH qKB qc148 qn148 6 3000 = true := by decide +kernel
theorem qk149_e : ack0 qY zIT zmcl qW qPt zMt qKH qKB qc149 qn149 6 3000 = true := by decide +kernel
theorem qk150_e : ack0 qY zIT zmcl qW qPt zMt qKH qKB qc150 qn150 6 3000 = true := by decide +kernel
theorem qk151_e : ack0 qY zIT zmcl qW qPt zMt qKH qKB qc151 qn151 6 3000 = true := by decide +kernel
end
section
theorem qk152_e : ack0 qY zIT zmcl qW qPt zMt qKH qKB qc152 qn152 6 3000 = true := by decide +kernel
theorem qk153_e : ack0 qY zIT zmcl qW qPt zMt qKH qKB qc153 qn153 6 3000 = true := by decide +kernel
theorem qk153_0 : qn153_0.all (ackN qY zIT zmcl qW qPt zMt qKH qKB qc153 qn153 6 3000) = true := by decide +kernel
theorem qk154_e : ack0 qY zIT zmcl qW qPt zMt qKH qKB qc154 qn154 6 3000 = true := by decide +kernel
theorem qk154_0 : qn154_0.all (ackN qY zIT zmcl qW qPt zMt qKH qKB qc154 qn154 6 3000) = true := by decide +kernel
theorem qk155_e : ack0 qY zIT zmcl qW qPt zMt qKH qKB qc155 qn155 6 3000 = true := by decide +kernel
theorem qk155_0 : qn155_0.all (ackN qY zIT zmcl qW qPt zMt qKH qKB qc155 qn155 6 3000) = true := by decide +kernel
theorem qk156_e : ack0 qY zIT zmcl qW qPt zMt qKH qKB qc156 qn156 6 3000 = true := by decide +kernel
theorem qk157_e : ack0 qY zIT zmcl qW qPt zMt qKH qKB qc157 qn157 6 3000 = true := by decide +kernel
theorem qk158_e : ack0 qY zIT zmcl qW qPt zMt qKH qKB qc158 qn158 6 3000 = true := by decide +kernel
theorem qk159_e : ack0 qY zIT zmcl qW qPt zMt qKH qKB qc159 qn159 6 3000 = true := by decide +kernel
theorem qk159_0 : qn159_0.all (ackN qY zIT zmcl qW qPt zMt qKH qKB qc159 qn159 6 3000) = true := by decide +kernel
theorem qk160_e : ack0 qY zIT zmcl qW qPt zMt qKH qKB qc160 qn160 6 3000 = true := by decide +kernel
theorem qk161_e : ack0 qY zIT zmcl qW qPt zMt qKH qKB qc161 qn161 6 3000 = true := by decide +kernel
theorem qk162_e : ack0 qY zIT zmcl qW qPt zMt qKH qKB qc162 qn162 6 3000 = true := by decide +kernel
end
