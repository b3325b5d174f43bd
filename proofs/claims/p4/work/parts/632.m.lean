/-! ===== methods, by program ===== -/
theorem kk_157_1_r8 : kk_157_1_T8.all kk_157_1_P = true := by decide +kernel
