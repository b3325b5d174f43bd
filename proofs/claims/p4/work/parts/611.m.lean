/-! ===== methods, by program ===== -/
theorem kk_157_0_r1 : kk_157_0_T1.all kk_157_0_P = true := by decide +kernel
