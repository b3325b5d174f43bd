/-! ===== methods, by program ===== -/
theorem kk_157_0_r6 : kk_157_0_T6.all kk_157_0_P = true := by decide +kernel
