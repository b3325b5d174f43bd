/-! ===== methods, by program ===== -/
theorem kk_158_3_r0 : kk_158_3_T0.all kk_158_3_P = true := by decide +kernel
