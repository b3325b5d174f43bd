/-! ===== methods, by program ===== -/
theorem kk_157_2_r10 : kk_157_2_T10.all kk_157_2_P = true := by decide +kernel
