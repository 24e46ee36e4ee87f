theorem yin1_t : yin1 true = true := by decide +kernel
