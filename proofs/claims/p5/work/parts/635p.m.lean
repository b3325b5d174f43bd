/-! ===== methods, by program ===== -/
theorem kk_157_2_r8a : (kk_157_2_T8.take 5).all kk_157_2_P = true := by decide +kernel
