/-! ===== methods, by program ===== -/
theorem kk_157_1_r0 : kk_157_1_T0.all kk_157_1_P = true := by decide +kernel
