/-! Joined: 62.qchk07, 62.qchk08, 62.qchk09, 62.qchk10. -/
section
theorem qk26_e : ack0 qY zIT zmcl qW qPt zMt qKH qKB qc26 qn26 6 3000 = true := by decide +kernel
theorem qk27_e : ack0 qY zIT zmcl qW qPt zMt qKH qKB qc27 qn27 6 3000 = true := by decide +kernel
end
section
theorem qk28_e : ack0 qY zIT zmcl qW qPt zMt qKH qKB qc28 qn28 6 3000 = true := by decide +kernel
theorem qk28_0 : qn28_0.all (ackN qY zIT zmcl qW qPt zMt qKH qKB qc28 qn28 6 3000) = true := by decide +kernel
theorem qk29_e : ack0 qY zIT zmcl qW qPt zMt qKH qKB qc29 qn29 6 3000 = true := by decide +kernel
theorem qk29_0 : qn29_0.all (ackN qY zIT zmcl qW qPt zMt qKH qKB qc29 qn29 6 3000) = true := by decide +kernel
theorem qk30_e : ack0 qY zIT zmcl qW qPt zMt qKH qKB qc30 qn30 6 3000 = true := by decide +kernel
theorem qk30_0 : qn30_0.all (ackN qY zIT zmcl qW qPt zMt qKH qKB qc30 qn30 6 3000) = true := by decide +kernel
theorem qk31_e : ack0 qY zIT zmcl qW qPt zMt qKH qKB qc31 qn31 6 3000 = true := by decide +kernel
theorem qk31_0 : qn31_0.all (ackN qY zIT zmcl qW qPt zMt qKH qKB qc31 qn31 6 3000) = true := by decide +kernel
theorem qk32_e : ack0 qY zIT zmcl qW qPt zMt qKH qKB qc32 qn32 6 3000 = true := by decide +kernel
theorem qk32_0 : qn32_0.all (ackN qY zIT zmcl qW qPt zMt qKH qKB qc32 qn32 6 3000) = true := by decide +kernel
theorem qk33_e : ack0 qY zIT zmcl qW qPt zMt qKH qKB qc33 qn33 6 3000 = true := by decide +kernel
theorem qk33_0 : qn33_0.all (ackN qY zIT zmcl qW qPt zMt qKH qKB qc33 qn33 6 3000) = true := by decide +kernel
theorem qk34_e : ack0 qY zIT zmcl qW qPt zMt qKH qKB qc34 qn34 6 3000 = true := by decide +kernel
theorem qk34_0 : qn34_0.all (ackN qY zIT zmcl qW qPt zMt qKH qKB qc34 qn34 6 3000) = true := by decide +kernel
end
section
theorem qk35_e : ack0 qY zIT zmcl qW qPt zMt qKH qKB qc35 qn35 6 3000 = true := by decide +kernel
theorem qk35_0 : qn35_0.all (ackN qY zIT zmcl qW qPt zMt qKH qKB qc35 qn35 6 3000) = true := by decide +kernel
theorem qk36_e : ack0 qY zIT zmcl qW qPt zMt qKH qKB qc36 qn36 6 3000 = true := by decide +kernel
theorem qk36_0 : qn36_0.all (ackN qY zIT zmcl qW qPt zMt qKH qKB qc36 qn36 6 3000) = true := by decide +kernel
theorem qk37_e : ack0 qY zIT zmcl qW qPt zMt qKH qKB qc37 qn37 6 3000 = true := by decide +kernel
theorem qk37_0 : qn37_0.all (ackN qY zIT zmcl qW qPt zMt qKH qKB qc37 qn37 6 3000) = true := by decide +kernel
theorem qk38_e : ack0 qY zIT zmcl qW qPt zMt qKH qKB qc38 qn38 6 3000 = true := by decide +kernel
theorem qk38_0 : qn38_0.all (ackN qY zIT zmcl qW qPt zMt qKH qKB qc38 qn38 6 3000) = true := by decide +kernel
end
section
theorem qk39_e : ack0 qY zIT zmcl qW qPt zMt qKH qKB qc39 qn39 6 3000 = true := by decide +kernel
theorem qk39_0 : qn39_0.all (ackN qY zIT zmcl qW qPt zMt qKH qKB qc39 qn39 6 3000) = true := by decide +kernel
theorem qk40_e : ack0 qY zIT zmcl qW qPt zMt qKH qKB qc40 qn40 6 3000 = true := by decide +kernel
theorem qk40_0 : qn40_0.all (ackN qY zIT zmcl qW qPt zMt qKH qKB qc40 qn40 6 3000) = true := by decide +kernel
theorem qk41_e : ack0 qY zIT zmcl qW qPt zMt qKH qKB qc41 qn41 6 3000 = true := by decide +kernel
theorem qk41_0 : qn41_0.all (ackN qY zIT zmcl qW qPt zMt qKH qKB qc41 qn41 6 3000) = true := by decide +kernel
theorem qk42_e : ack0 qY zIT zmcl qW qPt zMt qKH qKB qc42 qn42 6 3000 = true := by decide +kernel
theorem qk42_0 : qn42_0.all (ackN qY zIT zmcl qW qPt zMt qKH qKB qc42 qn42 6 3000) = true := by decide +kernel
theorem qk43_e : ack0 qY zIT zmcl qW qPt zMt qKH qKB qc43 qn43 6 3000 = true := by decide +kernel
theorem qk44_e : ack0 qY zIT zmcl qW qPt zMt qKH qKB qc44 qn44 6 3000 = true := by decide +kernel
theorem qk45_e : ack0 qY zIT zmcl qW qPt zMt qKH qKB qc45 qn45 6 3000 = true := by decide +kernel
theorem qk46_e : ack0 qY zIT zmcl qW qPt zMt qKH qKB qc46 qn46 6 3000 = true := by decide +kernel
theorem qk47_e : ack0 qY zIT zmcl qW qPt zMt qKH qKB qc47 qn47 6 3000 = true := by decide +kernel
theorem qk48_e : ack0 qY zIT zmcl qW qPt zMt qKH qKB qc48 qn48 6 3000 = true := by decide +kernel
theorem qk49_e : ack0 qY zIT zmcl qW qPt zMt qKH qKB qc49 qn49 6 3000 = true := by decide +kernel
end
