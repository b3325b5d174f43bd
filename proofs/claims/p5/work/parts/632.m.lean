/-! ===== methods, by program ===== -/
theorem kk_157_2_r4a : (kk_157_2_T4.take 4).all kk_157_2_P = true := by decide +kernel
