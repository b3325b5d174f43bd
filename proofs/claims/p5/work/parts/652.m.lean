/-! ===== methods, by program ===== -/
theorem kk_157_3_r1a : (kk_157_3_T1.take 7).all kk_157_3_P = true := by decide +kernel
