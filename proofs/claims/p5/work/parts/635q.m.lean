/-! ===== methods, by program ===== -/
theorem kk_157_2_r8b : (kk_157_2_T8.drop 5).all kk_157_2_P = true := by decide +kernel
