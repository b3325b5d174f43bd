/-! ===== methods, by program ===== -/
theorem kk_157_0_r0 : kk_157_0_T0.all kk_157_0_P = true := by decide +kernel
