/-! ===== methods, by program ===== -/
theorem kk_157_2_r3b : (kk_157_2_T3.drop 3).all kk_157_2_P = true := by decide +kernel
theorem kk_157_2_r3 : kk_157_2_T3.all kk_157_2_P = true := by
  have h : kk_157_2_T3 = kk_157_2_T3.take 3 ++ kk_157_2_T3.drop 3 := (List.take_append_drop 3 _).symm
  rw [h, List.all_append, kk_157_2_r3a, kk_157_2_r3b]
  rfl
