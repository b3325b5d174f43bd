/-! ===== methods, by program ===== -/
theorem kk_157_3_r0 : kk_157_3_T0.all kk_157_3_P = true := by decide +kernel
