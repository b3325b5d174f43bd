/-! ===== methods, by program ===== -/
theorem kk_157_2_r7b : (kk_157_2_T7.drop 3).all kk_157_2_P = true := by decide +kernel
theorem kk_157_2_r7 : kk_157_2_T7.all kk_157_2_P = true := by
  have h : kk_157_2_T7 = kk_157_2_T7.take 3 ++ kk_157_2_T7.drop 3 := (List.take_append_drop 3 _).symm
  rw [h, List.all_append, kk_157_2_r7a, kk_157_2_r7b]
  rfl
