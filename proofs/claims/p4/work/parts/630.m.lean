/-! ===== methods, by program ===== -/
theorem kk_157_1_r6 : kk_157_1_T6.all kk_157_1_P = true := by decide +kernel
