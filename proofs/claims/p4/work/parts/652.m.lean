/-! ===== methods, by program ===== -/
theorem kk_157_3_r1 : kk_157_3_T1.all kk_157_3_P = true := by decide +kernel
