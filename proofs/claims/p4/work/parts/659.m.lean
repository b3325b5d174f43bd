/-! ===== methods, by program ===== -/
theorem kk_158_1_r0 : kk_158_1_T0.all kk_158_1_P = true := by decide +kernel
