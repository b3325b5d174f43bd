/-! ===== methods, by program ===== -/
theorem kk_157_2_r2 : kk_157_2_T2.all kk_157_2_P = true := by decide +kernel
