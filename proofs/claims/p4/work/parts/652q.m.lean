/-! ===== methods, by program ===== -/
theorem kk_157_3_r2b : (kk_157_3_T2.drop 8).all kk_157_3_P = true := by decide +kernel
