/-! ===== methods, by program ===== -/
theorem kk_157_2_r6 : kk_157_2_T6.all kk_157_2_P = true := by decide +kernel
