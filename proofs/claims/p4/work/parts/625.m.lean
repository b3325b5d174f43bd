/-! ===== methods, by program ===== -/
theorem kk_157_1_r1 : kk_157_1_T1.all kk_157_1_P = true := by decide +kernel
