/-! ===== methods, by program ===== -/
theorem kk_157_2_r3 : kk_157_2_T3.all kk_157_2_P = true := by decide +kernel
