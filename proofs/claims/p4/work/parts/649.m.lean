/-! ===== methods, by program ===== -/
theorem kk_157_2_r11 : kk_157_2_T11.all kk_157_2_P = true := by decide +kernel
theorem kk_157_2_r12 : kk_157_2_T12.all kk_157_2_P = true := by decide +kernel
theorem kk_157_2_r : kk_157_2_T.all kk_157_2_P = true := by
  show (kk_157_2_T0 ++ (kk_157_2_T1 ++ (kk_157_2_T2 ++ (kk_157_2_T3 ++ (kk_157_2_T4 ++ (kk_157_2_T5 ++ (kk_157_2_T6 ++ (kk_157_2_T7 ++ (kk_157_2_T8 ++ (kk_157_2_T9 ++ (kk_157_2_T10 ++ (kk_157_2_T11 ++ (kk_157_2_T12))))))))))))).all kk_157_2_P = true
  rw [List.all_append, List.all_append, List.all_append, List.all_append, List.all_append, List.all_append, List.all_append, List.all_append, List.all_append, List.all_append, List.all_append, List.all_append, kk_157_2_r0, kk_157_2_r1, kk_157_2_r2, kk_157_2_r3, kk_157_2_r4, kk_157_2_r5, kk_157_2_r6, kk_157_2_r7, kk_157_2_r8, kk_157_2_r9, kk_157_2_r10, kk_157_2_r11, kk_157_2_r12]
  rfl
theorem kk_157_2_c {l : Launch} {D : va_G} {dA : Nat → ClassId} {xa : List Nat} {xt : ee_X} {B : Nat} (hxt : xt[1]? = some (some ab_rnd)) : ∀ K' ∈ ([kk_101_1, kk_101_2, kk_258_2, kk_260_2, kk_265_0] : List ab_K), ab_CT ab_cls l D dA xa xt B K' := by
  intro K' h'
  simp only [List.mem_cons, List.not_mem_nil, or_false] at h'
  rcases h' with rfl | rfl | rfl | rfl | rfl
  · exact kk_101_1_t hxt
  · exact kk_101_2_t hxt
  · exact kk_258_2_t hxt
  · exact kk_260_2_t hxt
  · exact kk_265_0_t hxt
theorem kk_157_2_t {l : Launch} {D : va_G} {dA : Nat → ClassId} {xa : List Nat} {xt : ee_X} {B : Nat} (hxt : xt[1]? = some (some ab_rnd)) : ab_CT ab_cls l D dA xa xt B kk_157_2 := ab_methI (mac := ab_mc0) (Ks := [kk_101_1, kk_101_2, kk_258_2, kk_260_2, kk_265_0]) (iy := kk_157_2_iy) (iht := kk_157_2_ih) (ihk := (fun _ _ => nat_lit 0)) (cps := (fun _ => (nat_lit 0, nat_lit 0))) (fuel := nat_lit 14470) (kI := nat_lit 5) (dI := nat_lit 2) (hk := kk_157_2_k) (ht := kk_157_2_h) (stop := kk_157_2_s) (Ts := kk_157_2_T) (n := nat_lit 14980) hxt ab_hnc ab_hcok ab_hcok2 (by decide +kernel) ab_mc0_snd (kk_157_2_c hxt) (by decide +kernel) (by decide +kernel) (by decide +kernel) (by decide +kernel) kk_157_2_e (fun T hT => by have h9 := List.all_eq_true.mp kk_157_2_r T hT; unfold kk_157_2_P at h9; exact h9)
