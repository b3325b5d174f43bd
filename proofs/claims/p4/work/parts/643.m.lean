/-! ===== methods, by program ===== -/
theorem kk_157_2_r5 : kk_157_2_T5.all kk_157_2_P = true := by decide +kernel
