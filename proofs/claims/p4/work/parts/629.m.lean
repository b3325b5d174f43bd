/-! ===== methods, by program ===== -/
theorem kk_157_1_r5 : kk_157_1_T5.all kk_157_1_P = true := by decide +kernel
