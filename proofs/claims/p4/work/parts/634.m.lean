/-! ===== methods, by program ===== -/
theorem kk_157_1_r10 : kk_157_1_T10.all kk_157_1_P = true := by decide +kernel
