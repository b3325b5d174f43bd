/-! ===== methods, by program ===== -/
theorem kk_158_3_r1 : kk_158_3_T1.all kk_158_3_P = true := by decide +kernel
