/-! Joined: 62.qchk16, 62.qchk17, 62.qchk18, 62.qchk19. -/
section
theorem qk102_e : ack0 qY zIT zmcl qW qPt zMt qKH qKB qc102 qn102 6 3000 = true := by decide +kernel
theorem qk102_0 : qn102_0.all (ackN qY zIT zmcl qW qPt zMt qKH qKB qc102 qn102 6 3000) = true := by decide +kernel
theorem qk103_e : ack0 qY zIT zmcl qW qPt zMt qKH qKB qc103 qn103 6 3000 = true := by decide +kernel
theorem qk103_0 : qn103_0.all (ackN qY zIT zmcl qW qPt zMt qKH qKB qc103 qn103 6 3000) = true := by decide +kernel
theorem qk104_e : ack0 qY zIT zmcl qW qPt zMt qKH qKB qc104 qn104 6 3000 = true := by decide +kernel
theorem qk104_0 : qn104_0.all (ackN qY zIT zmcl qW qPt zMt qKH qKB qc104 qn104 6 3000) = true := by decide +kernel
theorem qk105_e : ack0 qY zIT zmcl qW qPt zMt qKH qKB qc105 qn105 6 3000 = true := by decide +kernel
theorem qk105_0 : qn105_0.all (ackN qY zIT zmcl qW qPt zMt qKH qKB qc105 qn105 6 3000) = true := by decide +kernel
theorem qk106_e : ack0 qY zIT zmcl qW qPt zMt qKH qKB qc106 qn106 6 3000 = true := by decide +kernel
theorem qk107_e : ack0 qY zIT zmcl qW qPt zMt qKH qKB qc107 qn107 6 3000 = true := by decide +kernel
end
section
theorem qk108_e : ack0 qY zIT zmcl qW qPt zMt qKH qKB qc108 qn108 6 3000 = true := by decide +kernel
theorem qk108_0 : qn108_0.all (ackN qY zIT zmcl qW qPt zMt qKH qKB qc108 qn108 6 3000) = true := by decide +kernel
theorem qk109_e : ack0 qY zIT zmcl qW qPt zMt qKH qKB qc109 qn109 6 3000 = true := by decide +kernel
theorem qk109_0 : qn109_0.all (ackN qY zIT zmcl qW qPt zMt qKH qKB qc109 qn109 6 3000) = true := by decide +kernel
theorem qk110_e : ack0 qY zIT zmcl qW qPt zMt qKH qKB qc110 qn110 6 3000 = true := by decide +kernel
theorem qk110_0 : qn110_0.all (ackN qY zIT zmcl qW qPt zMt qKH qKB qc110 qn110 6 3000) = true := by decide +kernel
end
section
theorem qk111_e : ack0 qY zIT zmcl qW qPt zMt qKH qKB qc111 qn111 6 3000 = true := by decide +kernel
theorem qk111_0 : qn111_0.all (ackN qY zIT zmcl qW qPt zMt qKH qKB qc111 qn111 6 3000) = true := by decide +kernel
theorem qk112_e : ack0 qY zIT zmcl qW qPt zMt qKH qKB qc112 qn112 6 3000 = true := by decide +kernel
theorem qk112_0 : qn112_0.all (ackN qY zIT zmcl qW qPt zMt qKH qKB qc112 qn112 6 3000) = true := by decide +kernel
theorem qk113_e : ack0 qY zIT zmcl qW qPt zMt qKH qKB qc113 qn113 6 3000 = true := by decide +kernel
theorem qk113_0 : qn113_0.all (ackN qY zIT zmcl qW qPt zMt qKH qKB qc113 qn113 6 3000) = true := by decide +kernel
theorem qk114_e : ack0 qY zIT zmcl qW qPt zMt qKH qKB qc114 qn114 6 3000 = true := by decide +kernel
theorem qk114_0 : qn114_0.all (ackN qY zIT zmcl qW qPt zMt qKH qKB qc114 qn114 6 3000) = true := by decide +kernel
theorem qk115_e : ack0 qY zIT zmcl qW qPt zMt qKH qKB qc115 qn115 6 3000 = true := by decide +kernel
theorem qk115_0 : qn115_0.all (ackN qY zIT zmcl qW qPt zMt qKH qKB qc115 qn115 6 3000) = true := by decide +kernel
theorem qk116_e : ack0 qY zIT zmcl qW qPt zMt qKH qKB qc116 qn116 6 3000 = true := by decide +kernel
theorem qk116_0 : qn116_0.all (ackN qY zIT zmcl qW qPt zMt qKH qKB qc116 qn116 6 3000) = true := by decide +kernel
theorem qk117_e : ack0 qY zIT zmcl qW qPt zMt qKH qKB qc117 qn117 6 3000 = true := by decide +kernel
theorem qk118_e : ack0 qY zIT zmcl qW qPt zMt qKH qKB qc118 qn118 6 3000 = true := by decide +kernel
theorem qk119_e : ack0 qY zIT zmcl qW qPt zMt qKH qKB qc119 qn119 6 3000 = true := by decide +kernel
theorem qk119_0 : qn119_0.all (ackN qY zIT zmcl qW qPt zMt qKH qKB qc119 qn119 6 3000) = true := by decide +kernel
end
section
theorem qk120_e : ack0 qY zIT zmcl qW qPt zMt qKH qKB qc120 qn120 6 3000 = true := by decide +kernel
theorem qk121_e : ack0 qY zIT zmcl qW qPt zMt qKH qKB qc121 qn121 6 3000 = true := by decide +kernel
theorem qk122_e : ack0 qY zIT zmcl qW qPt zMt qKH qKB qc122 qn122 6 3000 = true := by decide +kernel
theorem qk122_0 : qn122_0.all (ackN qY zIT zmcl qW qPt zMt qKH qKB qc122 qn122 6 3000) = true := by decide +kernel
theorem qk123_e : ack0 qY zIT zmcl qW qPt zMt qKH qKB qc123 qn123 6 3000 = true := by decide +kernel
theorem qk124_e : ack0 qY zIT zmcl qW qPt zMt qKH qKB qc124 qn124 6 3000 = true := by decide +kernel
theorem qk125_e : ack0 qY zIT zmcl qW qPt zMt qKH qKB qc125 qn125 6 3000 = true := by decide +kernel
theorem qk126_e : ack0 qY zIT zmcl qW qPt zMt qKH qKB qc126 qn126 6 3000 = true := by decide +kernel
theorem qk126_0 : qn126_0.all (ackN qY zIT zmcl qW qPt zMt qKH qKB qc126 qn126 6 3000) = true := by decide +kernel
theorem qk127_e : ack0 qY zIT zmcl qW qPt zMt qKH qKB qc127 qn127 6 3000 = true := by decide +kernel
theorem qk127_0 : qn127_0.all (ackN qY zIT zmcl qW qPt zMt qKH qKB qc127 qn127 6 3000) = true := by decide +kernel
theorem qk128_e : ack0 qY zIT zmcl qW qPt zMt qKH qKB qc128 qn128 6 3000 = true := by decide +kernel
theorem qk128_0 : qn128_0.all (ackN qY zIT zmcl qW qPt zMt qKH qKB qc128 qn128 6 3000) = true := by decide +kernel
end
