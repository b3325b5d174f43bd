/-! ===== methods, by program ===== -/
theorem kk_158_1_r2 : kk_158_1_T2.all kk_158_1_P = true := by decide +kernel
theorem kk_158_1_r : kk_158_1_T.all kk_158_1_P = true := by
  show (kk_158_1_T0 ++ (kk_158_1_T1 ++ (kk_158_1_T2))).all kk_158_1_P = true
  rw [List.all_append, List.all_append, kk_158_1_r0, kk_158_1_r1, kk_158_1_r2]
  rfl
theorem kk_158_1_t {l : Launch} {D : va_G} {dA : Nat → ClassId} {xa : List Nat} {xt : ee_X} {B : Nat} (hxt : xt[1]? = some (some ab_rnd)) : ab_CT ab_cls l D dA xa xt B kk_158_1 := ab_methI (mac := ab_mc0) (Ks := []) (iy := kk_158_1_iy) (iht := (fun _ _ => [])) (ihk := (fun _ _ => nat_lit 0)) (cps := (fun _ => (nat_lit 0, nat_lit 0))) (fuel := nat_lit 290) (kI := nat_lit 2) (dI := nat_lit 1) (hk := kk_158_1_k) (ht := kk_158_1_h) (stop := kk_158_1_s) (Ts := kk_158_1_T) (n := nat_lit 34180) hxt ab_hnc ab_hcok ab_hcok2 (by decide +kernel) ab_mc0_snd (fun K' h' => by cases h') (by decide +kernel) (by decide +kernel) (by decide +kernel) (by decide +kernel) kk_158_1_e (fun T hT => by have h9 := List.all_eq_true.mp kk_158_1_r T hT; unfold kk_158_1_P at h9; exact h9)
