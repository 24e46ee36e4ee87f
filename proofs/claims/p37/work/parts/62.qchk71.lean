theorem qk282_33 : qn282_33.all (ackN qY zIT zmcl qW qPt zMt qKH qKB qc282 qn282 6 3000) = true := by decide +kernel
