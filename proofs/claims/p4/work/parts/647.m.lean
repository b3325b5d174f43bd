/-! ===== methods, by program ===== -/
theorem kk_157_2_r9 : kk_157_2_T9.all kk_157_2_P = true := by decide +kernel
