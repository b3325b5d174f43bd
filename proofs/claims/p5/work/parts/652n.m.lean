/-! ===== methods, by program ===== -/
theorem kk_157_3_r1b : (kk_157_3_T1.drop 7).all kk_157_3_P = true := by decide +kernel
theorem kk_157_3_r1 : kk_157_3_T1.all kk_157_3_P = true := by
  have h : kk_157_3_T1 = kk_157_3_T1.take 7 ++ kk_157_3_T1.drop 7 := (List.take_append_drop 7 _).symm
  rw [h, List.all_append, kk_157_3_r1a, kk_157_3_r1b]
  rfl
