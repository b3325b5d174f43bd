/-! ===== methods, by program ===== -/
theorem kk_158_0_r0 : kk_158_0_T0.all kk_158_0_P = true := by decide +kernel
