/-! ===== methods, by program ===== -/
theorem kk_157_1_r3 : kk_157_1_T3.all kk_157_1_P = true := by decide +kernel
