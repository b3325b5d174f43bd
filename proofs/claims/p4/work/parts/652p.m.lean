/-! ===== methods, by program ===== -/
theorem kk_157_3_r2a : (kk_157_3_T2.take 8).all kk_157_3_P = true := by decide +kernel
