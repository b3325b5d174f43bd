/-! ===== methods, by program ===== -/
theorem kk_157_0_r2 : kk_157_0_T2.all kk_157_0_P = true := by decide +kernel
