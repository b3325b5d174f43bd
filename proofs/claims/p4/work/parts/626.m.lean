/-! ===== methods, by program ===== -/
theorem kk_157_1_r2 : kk_157_1_T2.all kk_157_1_P = true := by decide +kernel
