/-! ===== methods, by program ===== -/
theorem kk_158_2_r0 : kk_158_2_T0.all kk_158_2_P = true := by decide +kernel
