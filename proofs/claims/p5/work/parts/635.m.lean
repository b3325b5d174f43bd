/-! ===== methods, by program ===== -/
theorem kk_157_2_r7a : (kk_157_2_T7.take 3).all kk_157_2_P = true := by decide +kernel
