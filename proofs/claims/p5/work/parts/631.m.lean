/-! ===== methods, by program ===== -/
theorem kk_157_2_r3a : (kk_157_2_T3.take 3).all kk_157_2_P = true := by decide +kernel
