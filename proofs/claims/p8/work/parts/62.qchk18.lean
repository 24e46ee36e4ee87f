theorem qk111_e : ack0 qY zIT zmcl qW qPt zMt qKH qKB qc111 qn111 6 3000 = true := by decide +kernel
theorem qk111_0 : qn111_0.all (ackN qY zIT zmcl qW qPt zMt qKH qKB qc111 qn111 6 3000) = true := by decide +kernel
theorem qk112_e : ack0 qY zIT zmcl qW qPt zMt qKH qKB qc112 qn112 6 3000 = true := by decide +kernel
theorem qk112_0 : qn112_0.all (ackN qY zIT zmcl qW qPt zMt qKH qKB qc112 qn112 6 3000) = true := by decide +kernel
theorem qk113_e : ack0 qY zIT zmcl qW qPt zMt qKH qKB qc113 qn113 6 3000 = true := by decide +kernel
theorem qk113_0 : qn113_0.all (ackN qY zIT zmcl qW qPt zMt qKH qKB qc113 qn113 6 3000) = true := by decide +kernel
theorem qk114_e : ack0 qY zIT zmcl qW qPt zMt qKH qKB qc114 qn114 6 3000 = true := by decide +kernel
theorem qk114_0 : qn114_0.all (ackN qY zIT zmcl qW qPt zMt qKH qKB qc114 qn114 6 3000) = true := by decide +kernel
theorem qk115_e : ack0 qY zIT zmcl qW qPt zMt qKH qKB qc115 qn115 6 3000 = true := by decide +kernel
theorem qk115_0 : qn115_0.all (ackN qY zIT zmcl qW qPt zMt qKH qKB qc115 qn115 6 3000) = true := by decide +kernel
theorem qk116_e : ack0 qY zIT zmcl qW qPt zMt qKH qKB qc116 qn116 6 3000 = true := by decide +kernel
theorem qk116_0 : qn116_0.all (ackN qY zIT zmcl qW qPt zMt qKH qKB qc116 qn116 6 3000) = true := by decide +kernel
theorem qk117_e : ack0 qY zIT zmcl qW qPt zMt qKH qKB qc117 qn117 6 3000 = true := by decide +kernel
theorem qk118_e : ack0 qY zIT zmcl qW qPt zMt qKH qKB qc118 qn118 6 3000 = true := by decide +kernel
theorem qk119_e : ack0 qY zIT zmcl qW qPt zMt qKH qKB qc119 qn119 6 3000 = true := by decide +kernel
theorem qk119_0 : qn119_0.all (ackN qY zIT zmcl qW qPt zMt qKH qKB qc119 qn119 6 3000) = true := by decide +kernel
