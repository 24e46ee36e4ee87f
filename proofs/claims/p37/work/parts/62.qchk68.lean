/-! Joined: 62.qchk68, 62.qchk69. -/
section
theorem qk282_21 : qn282_21.all (ackN qY zIT zmcl qW qPt zMt qKH qKB qc282 qn282 6 3000) = true := by decide +kernel
end
section
theorem qk282_22 : qn282_22.all (ackN qY zIT zmcl qW qPt zMt qKH qKB qc282 qn282 6 3000) = true := by decide +kernel
theorem qk282_23 : qn282_23.all (ackN qY zIT zmcl qW qPt zMt qKH qKB qc282 qn282 6 3000) = true := by decide +kernel
theorem qk282_24 : qn282_24.all (ackN qY zIT zmcl qW qPt zMt qKH qKB qc282 qn282 6 3000) = true := by decide +kernel
theorem qk282_25 : qn282_25.all (ackN qY zIT zmcl qW qPt zMt qKH qKB qc282 qn282 6 3000) = true := by decide +kernel
theorem qk282_26 : qn282_26.all (ackN qY zIT zmcl qW qPt zMt qKH qKB qc282 qn282 6 3000) = true := by decide +kernel
theorem qk282_27 : qn282_27.all (ackN qY zIT zmcl qW qPt zMt qKH qKB qc282 qn282 6 3000) = true := by decide +kernel
theorem qk282_28 : qn282_28.all (ackN qY zIT zmcl qW qPt zMt qKH qKB qc282 qn282 6 3000) = true := by decide +kernel
theorem qk282_29 : qn282_29.all (ackN qY zIT zmcl qW qPt zMt qKH qKB qc282 qn282 6 3000) = true := by decide +kernel
theorem qk282_30 : qn282_30.all (ackN qY zIT zmcl qW qPt zMt qKH qKB qc282 qn282 6 3000) = true := by decide +kernel
theorem qk282_31 : qn282_31.all (ackN qY zIT zmcl qW qPt zMt qKH qKB qc282 qn282 6 3000) = true := by decide +kernel
end
