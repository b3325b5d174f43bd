/-! ===== methods, by program ===== -/
theorem kk_157_1_r7 : kk_157_1_T7.all kk_157_1_P = true := by decide +kernel
