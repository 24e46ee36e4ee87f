theorem qk282_21 : qn282_21.all (ackN qY zIT zmcl qW qPt zMt qKH qKB qc282 qn282 6 3000) = true := by decide +kernel
