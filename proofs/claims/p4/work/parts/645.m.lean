/-! ===== methods, by program ===== -/
theorem kk_157_2_r7 : kk_157_2_T7.all kk_157_2_P = true := by decide +kernel
