/-! ===== methods, by program ===== -/
theorem kk_157_0_r8 : kk_157_0_T8.all kk_157_0_P = true := by decide +kernel
