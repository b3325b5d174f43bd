/-! ===== methods, by program ===== -/
theorem kk_157_2_r4 : kk_157_2_T4.all kk_157_2_P = true := by decide +kernel
