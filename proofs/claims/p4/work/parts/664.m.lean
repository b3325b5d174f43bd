/-! ===== methods, by program ===== -/
theorem kk_158_2_r1 : kk_158_2_T1.all kk_158_2_P = true := by decide +kernel
