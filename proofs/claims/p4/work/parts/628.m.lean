/-! ===== methods, by program ===== -/
theorem kk_157_1_r4 : kk_157_1_T4.all kk_157_1_P = true := by decide +kernel
