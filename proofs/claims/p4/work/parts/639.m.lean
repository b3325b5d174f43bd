/-! ===== methods, by program ===== -/
theorem kk_157_2_r1 : kk_157_2_T1.all kk_157_2_P = true := by decide +kernel
