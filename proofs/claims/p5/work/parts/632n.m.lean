/-! ===== methods, by program ===== -/
theorem kk_157_2_r4b : (kk_157_2_T4.drop 4).all kk_157_2_P = true := by decide +kernel
theorem kk_157_2_r4 : kk_157_2_T4.all kk_157_2_P = true := by
  have h : kk_157_2_T4 = kk_157_2_T4.take 4 ++ kk_157_2_T4.drop 4 := (List.take_append_drop 4 _).symm
  rw [h, List.all_append, kk_157_2_r4a, kk_157_2_r4b]
  rfl
