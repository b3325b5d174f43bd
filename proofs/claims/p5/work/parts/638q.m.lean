/-! ===== methods, by program ===== -/
theorem kk_157_3_r1b : (kk_157_3_T1.drop 13).all kk_157_3_P = true := by decide +kernel
