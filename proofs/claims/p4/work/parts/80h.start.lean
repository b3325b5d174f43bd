/-! ===== phase 1 by the kernel ===== -/
theorem lw_Kpc {l : Launch} {D : va_G} {dA : Nat → ClassId} {xa : List Nat} {xt : ee_X} {B : Nat} (hxt : xt[1]? = some (some ab_rnd)) : ∀ K' ∈ lw_Kp, ab_CT ab_cls l D dA xa xt B K' := by
  intro K' h'
  unfold lw_Kp at h'
  simp only [List.mem_cons, List.not_mem_nil, or_false] at h'
  rcases h' with rfl | rfl | rfl | rfl | rfl
  · exact kk_137_0_t hxt
  · exact kk_138_0_t hxt
  · exact kk_139_0_t hxt
  · exact kk_140_0_t hxt
  · exact kk_141_0_t hxt
theorem lw_ph1 : ab_rnI0 ab_cls lw_mp (nat_lit 0) (ab_oI ab_cls ab_mcI lw_mp (nat_lit 0) lw_Kp lw_iy lw_ih lw_ik lw_cp (nat_lit 2710) (nat_lit 7) (nat_lit 4) (nat_lit 1000) (nat_lit 240000) lw_hk (nat_lit 0)) (fun _ => []) (fun pc => Nat.beq pc (nat_lit 18)) lw_f1 (nat_lit 200) lw_S0 = true := by decide +kernel
