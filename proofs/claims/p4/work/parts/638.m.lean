/-! ===== methods, by program ===== -/
theorem kk_157_2_r0 : kk_157_2_T0.all kk_157_2_P = true := by decide +kernel
