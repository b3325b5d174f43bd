/-! ===== methods, by program ===== -/
theorem kk_158_0_r1 : kk_158_0_T1.all kk_158_0_P = true := by decide +kernel
