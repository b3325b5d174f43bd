/-! ===== methods, by program ===== -/
theorem kk_157_1_r9 : kk_157_1_T9.all kk_157_1_P = true := by decide +kernel
