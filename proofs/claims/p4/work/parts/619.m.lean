/-! ===== methods, by program ===== -/
theorem kk_157_0_r9 : kk_157_0_T9.all kk_157_0_P = true := by decide +kernel
