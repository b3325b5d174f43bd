/-! ===== methods, by program ===== -/
theorem kk_157_2_r8 : kk_157_2_T8.all kk_157_2_P = true := by decide +kernel
