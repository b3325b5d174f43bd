/-! ===== methods, by program ===== -/
theorem kk_157_0_r11 : kk_157_0_T11.all kk_157_0_P = true := by decide +kernel
theorem kk_157_0_r12 : kk_157_0_T12.all kk_157_0_P = true := by decide +kernel
theorem kk_157_0_r : kk_157_0_T.all kk_157_0_P = true := by
  show (kk_157_0_T0 ++ (kk_157_0_T1 ++ (kk_157_0_T2 ++ (kk_157_0_T3 ++ (kk_157_0_T4 ++ (kk_157_0_T5 ++ (kk_157_0_T6 ++ (kk_157_0_T7 ++ (kk_157_0_T8 ++ (kk_157_0_T9 ++ (kk_157_0_T10 ++ (kk_157_0_T11 ++ (kk_157_0_T12))))))))))))).all kk_157_0_P = true
  rw [List.all_append, List.all_append, List.all_append, List.all_append, List.all_append, List.all_append, List.all_append, List.all_append, List.all_append, List.all_append, List.all_append, List.all_append, kk_157_0_r0, kk_157_0_r1, kk_157_0_r2, kk_157_0_r3, kk_157_0_r4, kk_157_0_r5, kk_157_0_r6, kk_157_0_r7, kk_157_0_r8, kk_157_0_r9, kk_157_0_r10, kk_157_0_r11, kk_157_0_r12]
  rfl
theorem kk_157_0_c {l : Launch} {D : va_G} {dA : Nat → ClassId} {xa : List Nat} {xt : ee_X} {B : Nat} (hxt : xt[1]? = some (some ab_rnd)) : ∀ K' ∈ ([kk_101_1, kk_101_2, kk_258_0, kk_260_0, kk_265_0] : List ab_K), ab_CT ab_cls l D dA xa xt B K' := by
  intro K' h'
  simp only [List.mem_cons, List.not_mem_nil, or_false] at h'
  rcases h' with rfl | rfl | rfl | rfl | rfl
  · exact kk_101_1_t hxt
  · exact kk_101_2_t hxt
  · exact kk_258_0_t hxt
  · exact kk_260_0_t hxt
  · exact kk_265_0_t hxt
theorem kk_157_0_t {l : Launch} {D : va_G} {dA : Nat → ClassId} {xa : List Nat} {xt : ee_X} {B : Nat} (hxt : xt[1]? = some (some ab_rnd)) : ab_CT ab_cls l D dA xa xt B kk_157_0 := ab_methI (mac := ab_mc0) (Ks := [kk_101_1, kk_101_2, kk_258_0, kk_260_0, kk_265_0]) (iy := kk_157_0_iy) (iht := kk_157_0_ih) (ihk := (fun _ _ => nat_lit 0)) (cps := (fun _ => (nat_lit 0, nat_lit 0))) (fuel := nat_lit 14470) (kI := nat_lit 5) (dI := nat_lit 2) (hk := kk_157_0_k) (ht := kk_157_0_h) (stop := kk_157_0_s) (Ts := kk_157_0_T) (n := nat_lit 14980) hxt ab_hnc ab_hcok ab_hcok2 (by decide +kernel) ab_mc0_snd (kk_157_0_c hxt) (by decide +kernel) (by decide +kernel) (by decide +kernel) (by decide +kernel) kk_157_0_e (fun T hT => by have h9 := List.all_eq_true.mp kk_157_0_r T hT; unfold kk_157_0_P at h9; exact h9)
