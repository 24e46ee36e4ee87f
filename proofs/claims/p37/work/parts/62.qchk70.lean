theorem qk282_32 : qn282_32.all (ackN qY zIT zmcl qW qPt zMt qKH qKB qc282 qn282 6 3000) = true := by decide +kernel
