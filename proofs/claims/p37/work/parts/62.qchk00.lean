/-! Joined: 62.qchk00, 62.qchk01, 62.qchk02, 62.qchk03. -/
section
theorem qk0_e : ack0 qY zIT zmcl qW qPt zMt qKH qKB qc0 qn0 6 3000 = true := by decide +kernel
theorem qk0_0 : qn0_0.all (ackN qY zIT zmcl qW qPt zMt qKH qKB qc0 qn0 6 3000) = true := by decide +kernel
end
section
theorem qk1_e : ack0 qY zIT zmcl qW qPt zMt qKH qKB qc1 qn1 6 3000 = true := by decide +kernel
end
section
theorem qk2_e : ack0 qY zIT zmcl qW qPt zMt qKH qKB qc2 qn2 6 3000 = true := by decide +kernel
theorem qk2_0 : qn2_0.all (ackN qY zIT zmcl qW qPt zMt qKH qKB qc2 qn2 6 3000) = true := by decide +kernel
theorem qk3_e : ack0 qY zIT zmcl qW qPt zMt qKH qKB qc3 qn3 6 3000 = true := by decide +kernel
theorem qk3_0 : qn3_0.all (ackN qY zIT zmcl qW qPt zMt qKH qKB qc3 qn3 6 3000) = true := by decide +kernel
theorem qk4_e : ack0 qY zIT zmcl qW qPt zMt qKH qKB qc4 qn4 6 3000 = true := by decide +kernel
theorem qk4_0 : qn4_0.all (ackN qY zIT zmcl qW qPt zMt qKH qKB qc4 qn4 6 3000) = true := by decide +kernel
theorem qk5_e : ack0 qY zIT zmcl qW qPt zMt qKH qKB qc5 qn5 6 3000 = true := by decide +kernel
theorem qk5_0 : qn5_0.all (ackN qY zIT zmcl qW qPt zMt qKH qKB qc5 qn5 6 3000) = true := by decide +kernel
theorem qk6_e : ack0 qY zIT zmcl qW qPt zMt qKH qKB qc6 qn6 6 3000 = true := by decide +kernel
theorem qk6_0 : qn6_0.all (ackN qY zIT zmcl qW qPt zMt qKH qKB qc6 qn6 6 3000) = true := by decide +kernel
theorem qk7_e : ack0 qY zIT zmcl qW qPt zMt qKH qKB qc7 qn7 6 3000 = true := by decide +kernel
theorem qk7_0 : qn7_0.all (ackN qY zIT zmcl qW qPt zMt qKH qKB qc7 qn7 6 3000) = true := by decide +kernel
theorem qk8_e : ack0 qY zIT zmcl qW qPt zMt qKH qKB qc8 qn8 6 3000 = true := by decide +kernel
theorem qk8_0 : qn8_0.all (ackN qY zIT zmcl qW qPt zMt qKH qKB qc8 qn8 6 3000) = true := by decide +kernel
theorem qk9_e : ack0 qY zIT zmcl qW qPt zMt qKH qKB qc9 qn9 6 3000 = true := by decide +kernel
theorem qk9_0 : qn9_0.all (ackN qY zIT zmcl qW qPt zMt qKH qKB qc9 qn9 6 3000) = true := by decide +kernel
theorem qk10_e : ack0 qY zIT zmcl qW qPt zMt qKH qKB qc10 qn10 6 3000 = true := by decide +kernel
theorem qk10_0 : qn10_0.all (ackN qY zIT zmcl qW qPt zMt qKH qKB qc10 qn10 6 3000) = true := by decide +kernel
theorem qk11_e : ack0 qY zIT zmcl qW qPt zMt qKH qKB qc11 qn11 6 3000 = true := by decide +kernel
theorem qk11_0 : qn11_0.all (ackN qY zIT zmcl qW qPt zMt qKH qKB qc11 qn11 6 3000) = true := by decide +kernel
theorem qk12_e : ack0 qY zIT zmcl qW qPt zMt qKH qKB qc12 qn12 6 3000 = true := by decide +kernel
theorem qk12_0 : qn12_0.all (ackN qY zIT zmcl qW qPt zMt qKH qKB qc12 qn12 6 3000) = true := by decide +kernel
end
section
theorem qk13_e : ack0 qY zIT zmcl qW qPt zMt qKH qKB qc13 qn13 6 3000 = true := by decide +kernel
theorem qk14_e : ack0 qY zIT zmcl qW qPt zMt qKH qKB qc14 qn14 6 3000 = true := by decide +kernel
theorem qk16_e : ack0 qY zIT zmcl qW qPt zMt qK0 qKA qc16 qn16 6 3000 = true := by decide +kernel
end
