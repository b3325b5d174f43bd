/-! ===== methods, by program ===== -/
theorem kk_157_3_r0a : (kk_157_3_T0.take 5).all kk_157_3_P = true := by decide +kernel
