theorem yin1_f : yin1 false = true := by decide +kernel
