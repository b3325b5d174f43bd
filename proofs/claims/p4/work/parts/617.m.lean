/-! ===== methods, by program ===== -/
theorem kk_157_0_r7 : kk_157_0_T7.all kk_157_0_P = true := by decide +kernel
