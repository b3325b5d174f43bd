/-! ===== methods, by program ===== -/
theorem kk_157_0_r10 : kk_157_0_T10.all kk_157_0_P = true := by decide +kernel
