/-! ===== methods, by program ===== -/
theorem kk_157_0_r4 : kk_157_0_T4.all kk_157_0_P = true := by decide +kernel
