/-! ===== methods, by program ===== -/
theorem kk_157_0_r5 : kk_157_0_T5.all kk_157_0_P = true := by decide +kernel
