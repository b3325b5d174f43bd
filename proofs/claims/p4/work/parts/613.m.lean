/-! ===== methods, by program ===== -/
theorem kk_157_0_r3 : kk_157_0_T3.all kk_157_0_P = true := by decide +kernel
