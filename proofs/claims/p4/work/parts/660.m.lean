/-! ===== methods, by program ===== -/
theorem kk_158_1_r1 : kk_158_1_T1.all kk_158_1_P = true := by decide +kernel
