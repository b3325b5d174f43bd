/-! ===== methods, by program ===== -/
theorem kk_157_3_r2 : kk_157_3_T2.all kk_157_3_P = true := by
  have h : kk_157_3_T2 = kk_157_3_T2.take 8 ++ kk_157_3_T2.drop 8 := (List.take_append_drop 8 _).symm
  rw [h, List.all_append, kk_157_3_r2a, kk_157_3_r2b]
  rfl
theorem kk_157_3_r : kk_157_3_T.all kk_157_3_P = true := by
  show (kk_157_3_T0 ++ (kk_157_3_T1 ++ (kk_157_3_T2))).all kk_157_3_P = true
  rw [List.all_append, List.all_append, kk_157_3_r0, kk_157_3_r1, kk_157_3_r2]
  rfl
theorem kk_157_3_c {l : Launch} {D : va_G} {dA : Nat → ClassId} {xa : List Nat} {xt : ee_X} {B : Nat} (hxt : xt[1]? = some (some ab_rnd)) : ∀ K' ∈ ([kk_101_1, kk_101_2] : List ab_K), ab_CT ab_cls l D dA xa xt B K' := by
  intro K' h'
  simp only [List.mem_cons, List.not_mem_nil, or_false] at h'
  rcases h' with rfl | rfl
  · exact kk_101_1_t hxt
  · exact kk_101_2_t hxt
theorem kk_157_3_t {l : Launch} {D : va_G} {dA : Nat → ClassId} {xa : List Nat} {xt : ee_X} {B : Nat} (hxt : xt[1]? = some (some ab_rnd)) : ab_CT ab_cls l D dA xa xt B kk_157_3 := ab_methI (mac := ab_mc0) (Ks := [kk_101_1, kk_101_2]) (iy := kk_157_3_iy) (iht := kk_157_3_ih) (ihk := (fun _ _ => nat_lit 0)) (cps := (fun _ => (nat_lit 0, nat_lit 0))) (fuel := nat_lit 6190) (kI := nat_lit 5) (dI := nat_lit 1) (hk := kk_157_3_k) (ht := kk_157_3_h) (stop := kk_157_3_s) (Ts := kk_157_3_T) (n := nat_lit 11600) hxt ab_hnc ab_hcok ab_hcok2 (by decide +kernel) ab_mc0_snd (kk_157_3_c hxt) (by decide +kernel) (by decide +kernel) (by decide +kernel) (by decide +kernel) kk_157_3_e (fun T hT => by have h9 := List.all_eq_true.mp kk_157_3_r T hT; unfold kk_157_3_P at h9; exact h9)
