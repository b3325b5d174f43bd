/-! ===== methods, by program ===== -/
theorem kk_157_3_r0b : (kk_157_3_T0.drop 5).all kk_157_3_P = true := by decide +kernel
theorem kk_157_3_r0 : kk_157_3_T0.all kk_157_3_P = true := by
  have h : kk_157_3_T0 = kk_157_3_T0.take 5 ++ kk_157_3_T0.drop 5 := (List.take_append_drop 5 _).symm
  rw [h, List.all_append, kk_157_3_r0a, kk_157_3_r0b]
  rfl
