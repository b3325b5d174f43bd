section CT2
variable {p : Program} {l : Launch} {e : Env} {R : Room} {s : State} {m : MethodId} {args : Array Value} {below : List Frame} {meth : Method} {c : Code} {Q : State → Prop} {D : va_G} {dA : Nat → ClassId} {xa : List Nat} {xt : ee_X} {B : Nat} {y : Nat}
variable {pc a b n : Nat} {H : Heap} {locs : List Loc} {cells slots : Nat} {ls : Array Slot} {ws : va_W} {d c' s' : Nat} {P : List Value → va_W → Prop} {Qc : Option Value → va_W → Nat → Nat → Prop}
theorem ct_hk (hR : d ≤ R.frames ∧ 40 * d ≤ R.locals) (hd0 : 0 < d) (hC : ee_C p s m args meth c D dA xa xt B y) (y1 : 1 ≤ b) (yM : b < ee_nM) (hM : ct l D dA xa xt B (d - 1) b c' s' P Qc) : Back l R p e below s args (ee_yn b) 3 8 (PreOf R c' s' (ct_Pre D dA xa xt B P)) (mt_post (ct_Post D B Qc) (fun q => B ≤ q)) := by
  obtain ⟨he, hb, hml, hown, hts, hG, hB, -⟩ := id hC
  obtain ⟨m1, m2, m3, m4, m5, m6, m7, m8, m9, m10, m11, m12, m13⟩ := ee_mth y1 yM
  refine mt_back (bytes := ee_cb b) (maxL := ee_ml b) (ret := ee_rt b) hM ct_blind rfl rfl (by show d - 1 + 1 ≤ _; omega) (by show 8 + (ee_ml b + 11) + 40 * (d - 1) ≤ _; omega) (ee_words hts y1 yM) List.mem_cons_self ?_
  intro a' U hW
  exact word_at hW (Or.inl (by first | rfl | simp [Cond.onTables, Cond.keeps, Cond.steady])) (hts _ m2)
theorem sm_40 (hR : d ≤ R.frames ∧ 40 * d ≤ R.locals) (hd0 : 0 < d) (hC : ee_C p s m args meth c D dA xa xt B y) (hs : ee_sc y pc (40, a, b, n) = true) (y1 : 1 ≤ b) (hM : ct l D dA xa xt B (d - 1) b c' s' P Qc)
    (hP : va_P D ee_cl ws H) (hD : va_D (fun q => B ≤ q) ws) (hS : va_S (fun q => B ≤ q) s.heap H locs) (hsz : ls.size = ee_ml y) {kk0 ax : Nat} {fs : List Value} (hws : ws[kk0]? = some (ax, .inr (ee_yc b, fs))) {vAs vr : List Value} (hp : P (.ref ax :: vAs) ws) (hn : vAs.length = ee_np b)
    (hcat : (vr.map fun v => v.category).sum ≤ 8) (hcap : cells + c' ≤ R.cells ∧ slots + s' ≤ R.slots)
    (kk : ∀ (v : Option Value) (ws1 : va_W) (H1 : Heap) (locs1 : List Loc) (k n : Nat), Qc v ws1 k n → va_P D ee_cl ws1 H1 → va_D (fun q => B ≤ q) ws1 → va_S (fun q => B ≤ q) s.heap H1 locs1 → W p l e R s m args below meth c H1 locs1 (cells + k) (slots + n) Q (F0 m (pc + 3) ls (v.toList ++ vr))) :
    W p l e R s m args below meth c H locs cells slots Q (F0 m pc ls (vAs.reverse ++ .ref ax :: vr)) := by
  obtain ⟨q, hq, hd, hn3, hx, -⟩ := ee_sc_spec hs
  obtain ⟨he, hb, hml, hown, hts, hG, hB, -⟩ := id hC
  cases (show some (Instr.invokevirtual a, 3) = some q from hq)
  have hx' : (ee_rsq y a 2 b && (decide (b < ee_nM ∧ ee_yc b < ee_cl.length ∧ ¬ (ee_yn b).name = "<init>") && ee_isI b)) = true := hx
  rw [Bool.and_eq_true, Bool.and_eq_true] at hx'
  obtain ⟨yM, hyc, hni⟩ := of_decide_eq_true hx'.2.1
  obtain ⟨m1, m2, m3, m4, m5, m6, m7, m8, m9, m10, m11, m12, m13⟩ := ee_mth y1 yM
  have hK := ct_hk (p := p) (e := e) (below := below) hR hd0 hC y1 yM hM
  obtain ⟨C, T, N, fs0, ecx, ecl, -⟩ := ee_cls (ci := ee_yc b) hyc
  have hCn : C = (ee_yn b).cls := by
    have h1 := ee_cname hyc
    rw [ecx] at h1
    exact h1.trans m9
  have hrec := va_recv hG.1 hP ecl hws
  dsimp only at hrec
  rw [hCn] at hrec
  obtain ⟨cellB, hcB, hoB, hclB⟩ := hrec
  have hl := hts _ (ee_word hx'.1 (w := .methodLink (ee_on.getD (ee_yc y) "") a (ee_yn b)) (by decide) (by decide) (by decide) rfl)
  have hpar : ∀ sig, parseMethodDescriptor (ee_yn b).desc = some sig → ee_np b = sig.parameters.length := by
    intro sig hsig
    rw [hsig] at m8
    exact (Option.some.inj m8).symm
  intro T0 hT X
  obtain ⟨v, vm₁, B', hW₁, X', hpost, st⟩ := callV X he (C := (ee_yn b).cls) (bytes := ee_cb b) (maxL := ee_ml b) (ret := ee_rt b) hown hl (hts _ (m4 hx'.2.2).1) (hts _ ((m4 hx'.2.2).2 hni)) (hts _ m1) ⟨m6, m7⟩ hK (by rw [hT]; exact hcB) hoB hclB (g := F0 m pc ls (vAs.reverse ++ .ref ax :: vr)) rfl (by rw [hml]; exact hsz) (argsL := vAs) (rest := vr) (fun sig h => hn.trans (hpar sig h)) rfl (by show 2 * 0 + _ ≤ 8; omega) (by rw [hb]; exact hd)
    (fun vm₁ hW₁ => ⟨hcap.1, hcap.2, ct_preU hC hp hP hD hS (T0.setVm vm₁) hT hW₁⟩)
  obtain ⟨t2, a1, b1⟩ := ct_on (P := P) (g0 := F0 m pc ls (vAs.reverse ++ .ref ax :: vr)) (rest := vr) hT hpost X' hS kk
  exact ⟨t2, st t2 a1, b1⟩
theorem sm_39 (hR : d ≤ R.frames ∧ 40 * d ≤ R.locals) (hd0 : 0 < d) (hC : ee_C p s m args meth c D dA xa xt B y) (hs : ee_sc y pc (39, a, b, n) = true) (y1 : 1 ≤ b) (hM : ct l D dA xa xt B (d - 1) b c' s' P Qc)
    (hP : va_P D ee_cl ws H) (hD : va_D (fun q => B ≤ q) ws) (hS : va_S (fun q => B ≤ q) s.heap H locs) (hsz : ls.size = ee_ml y) {ax : Nat} {vAs vr : List Value} (hp : P (.ref ax :: vAs) ws) (hn : vAs.length = ee_np b)
    (hcat : (vr.map fun v => v.category).sum ≤ 8) (hcap : cells + c' ≤ R.cells ∧ slots + s' ≤ R.slots)
    (kk : ∀ (v : Option Value) (ws1 : va_W) (H1 : Heap) (locs1 : List Loc) (k n : Nat), Qc v ws1 k n → va_P D ee_cl ws1 H1 → va_D (fun q => B ≤ q) ws1 → va_S (fun q => B ≤ q) s.heap H1 locs1 → W p l e R s m args below meth c H1 locs1 (cells + k) (slots + n) Q (F0 m (pc + 3) ls (v.toList ++ vr))) :
    W p l e R s m args below meth c H locs cells slots Q (F0 m pc ls (vAs.reverse ++ .ref ax :: vr)) := by
  obtain ⟨q, hq, hd, hn3, hx, -⟩ := ee_sc_spec hs
  obtain ⟨he, hb, hml, hown, hts, hG, hB, -⟩ := id hC
  cases (show some (Instr.invokespecial a, 3) = some q from hq)
  have hx' : (ee_rsq y a 2 b && (decide (b < ee_nM ∧ (ee_yn b).name = "<init>") && ee_isI b)) = true := hx
  rw [Bool.and_eq_true, Bool.and_eq_true] at hx'
  obtain ⟨yM, hini⟩ := of_decide_eq_true hx'.2.1
  obtain ⟨m1, m2, m3, m4, m5, m6, m7, m8, m9, m10, m11, m12, m13⟩ := ee_mth y1 yM
  have hK := ct_hk (p := p) (e := e) (below := below) hR hd0 hC y1 yM hM
  have hl := hts _ (ee_word hx'.1 (w := .methodLink (ee_on.getD (ee_yc y) "") a (ee_yn b)) (by decide) (by decide) (by decide) rfl)
  have hpar : ∀ sig, parseMethodDescriptor (ee_yn b).desc = some sig → ee_np b = sig.parameters.length := by
    intro sig hsig
    rw [hsig] at m8
    exact (Option.some.inj m8).symm
  have hnone : ee_rt b = none := ee_initv yM y1 hini
  rw [hnone] at m1
  intro T0 hT X
  obtain ⟨v, vm₁, B', hW₁, X', hpost, st⟩ := callI X he (bytes := ee_cb b) (maxL := ee_ml b) hown hini hl (hts _ (m4 hx'.2.2).1) (hts _ m1) ⟨m6, m7⟩ hK (g := F0 m pc ls (vAs.reverse ++ .ref ax :: vr)) rfl (by rw [hml]; exact hsz) (a := ax) (argsL := vAs) (rest := vr) (fun sig h => hn.trans (hpar sig h)) rfl (by show 2 * 0 + _ ≤ 8; omega) (by rw [hb]; exact hd)
    (fun vm₁ hW₁ => ⟨hcap.1, hcap.2, ct_preU hC hp hP hD hS (T0.setVm vm₁) hT hW₁⟩)
  obtain ⟨t2, a1, b1⟩ := ct_on (P := P) (g0 := F0 m pc ls (vAs.reverse ++ .ref ax :: vr)) (rest := vr) hT hpost X' hS kk
  exact ⟨t2, st t2 a1, b1⟩
theorem sm_41 (hR : d ≤ R.frames ∧ 40 * d ≤ R.locals) (hd0 : 0 < d) (hC : ee_C p s m args meth c D dA xa xt B y) (hs : ee_sc y pc (41, a, b, n) = true) (y1 : 1 ≤ b) (hM : ct l D dA xa xt B (d - 1) b c' s' P Qc)
    (hP : va_P D ee_cl ws H) (hD : va_D (fun q => B ≤ q) ws) (hS : va_S (fun q => B ≤ q) s.heap H locs) (hsz : ls.size = ee_ml y) {vAs vr : List Value} (hp : P vAs ws) (hn : vAs.length = ee_np b)
    (hcat : (vr.map fun v => v.category).sum ≤ 8) (hcap : cells + c' ≤ R.cells ∧ slots + s' ≤ R.slots)
    (kk : ∀ (v : Option Value) (ws1 : va_W) (H1 : Heap) (locs1 : List Loc) (k n : Nat), Qc v ws1 k n → va_P D ee_cl ws1 H1 → va_D (fun q => B ≤ q) ws1 → va_S (fun q => B ≤ q) s.heap H1 locs1 → W p l e R s m args below meth c H1 locs1 (cells + k) (slots + n) Q (F0 m (pc + 3) ls (v.toList ++ vr))) :
    W p l e R s m args below meth c H locs cells slots Q (F0 m pc ls (vAs.reverse ++ vr)) := by
  obtain ⟨q, hq, hd, hn3, hx, -⟩ := ee_sc_spec hs
  obtain ⟨he, hb, hml, hown, hts, hG, hB, -⟩ := id hC
  cases (show some (Instr.invokestatic a, 3) = some q from hq)
  have hx' : (ee_rsq y a 2 b && (decide (b < ee_nM) && !ee_isI b)) = true := hx
  rw [Bool.and_eq_true, Bool.and_eq_true] at hx'
  have yM := of_decide_eq_true hx'.2.1
  have hst : ee_isI b = false := by simpa using hx'.2.2
  obtain ⟨m1, m2, m3, m4, m5, m6, m7, m8, m9, m10, m11, m12, m13⟩ := ee_mth y1 yM
  have hK := ct_hk (p := p) (e := e) (below := below) hR hd0 hC y1 yM hM
  have hl := hts _ (ee_word hx'.1 (w := .methodLink (ee_on.getD (ee_yc y) "") a (ee_yn b)) (by decide) (by decide) (by decide) rfl)
  have hpar : ∀ sig, parseMethodDescriptor (ee_yn b).desc = some sig → ee_np b = sig.parameters.length := by
    intro sig hsig
    rw [hsig] at m8
    exact (Option.some.inj m8).symm
  intro T0 hT X
  obtain ⟨v, vm₁, B', hW₁, X', hpost, st⟩ := callS X he (bytes := ee_cb b) (maxL := ee_ml b) (ret := ee_rt b) hown hl (hts _ (m3 hst)) (hts _ m2) (hts _ m1) ⟨m6, m7⟩ hK (g := F0 m pc ls (vAs.reverse ++ vr)) rfl (by rw [hml]; exact hsz) (argsL := vAs) (rest := vr) (fun sig h => hn.trans (hpar sig h)) rfl (by show 2 * 0 + _ ≤ 8; omega) (by rw [hb]; exact hd)
    (fun vm₁ hW₁ => ⟨hcap.1, hcap.2, ct_preU hC hp hP hD hS (T0.setVm vm₁) hT hW₁⟩)
  obtain ⟨t2, a1, b1⟩ := ct_on (P := P) (g0 := F0 m pc ls (vAs.reverse ++ vr)) (rest := vr) hT hpost X' hS kk
  exact ⟨t2, st t2 a1, b1⟩
theorem sm_42 (hR : d ≤ R.frames ∧ 40 * d ≤ R.locals) (hd0 : 0 < d) (hC : ee_C p s m args meth c D dA xa xt B y) (hs : ee_sc y pc (42, a, b, n) = true) (y1 : 1 ≤ b) (hM : ct l D dA xa xt B (d - 1) b c' s' P Qc)
    (hP : va_P D ee_cl ws H) (hD : va_D (fun q => B ≤ q) ws) (hS : va_S (fun q => B ≤ q) s.heap H locs) (hsz : ls.size = ee_ml y) {vAs vr : List Value} (hp : P vAs ws) (hn : vAs.length = ee_np b)
    (hcat : (vr.map fun v => v.category).sum ≤ 8) (hcap : cells + c' ≤ R.cells ∧ slots + s' ≤ R.slots)
    (kk : ∀ (v : Option Value) (ws1 : va_W) (H1 : Heap) (locs1 : List Loc) (k n : Nat), Qc v ws1 k n → va_P D ee_cl ws1 H1 → va_D (fun q => B ≤ q) ws1 → va_S (fun q => B ≤ q) s.heap H1 locs1 → W p l e R s m args below meth c H1 locs1 (cells + k) (slots + n) Q (F0 m (pc + 3) ls (v.toList ++ vr))) :
    W p l e R s m args below meth c H locs cells slots Q (F0 m pc ls (vAs.reverse ++ vr)) := by
  obtain ⟨q, hq, hd, hn3, hx, -⟩ := ee_sc_spec hs
  obtain ⟨he, hb, hml, hown, hts, hG, hB, -⟩ := id hC
  cases (show some (Instr.invokestatic a, 3) = some q from hq)
  have hx' : (ee_rsq y a 8 b && (decide (b < ee_nM) && !ee_isI b)) = true := hx
  rw [Bool.and_eq_true, Bool.and_eq_true] at hx'
  have yM := of_decide_eq_true hx'.2.1
  have hst : ee_isI b = false := by simpa using hx'.2.2
  obtain ⟨m1, m2, m3, m4, m5, m6, m7, m8, m9, m10, m11, m12, m13⟩ := ee_mth y1 yM
  have hK := ct_hk (p := p) (e := e) (below := below) hR hd0 hC y1 yM hM
  have hnw := hG.2.1.1 _ (ee_nestw hx'.1)
  have hl := va_Nw.use (A := args) rfl hnw
  have hpar : ∀ sig, parseMethodDescriptor (ee_yn b).desc = some sig → ee_np b = sig.parameters.length := by
    intro sig hsig
    rw [hsig] at m8
    exact (Option.some.inj m8).symm
  intro T0 hT X
  obtain ⟨v, vm₁, B', hW₁, X', hpost, st⟩ := va_callSN X he (bytes := ee_cb b) (maxL := ee_ml b) (ret := ee_rt b) hown hl (hts _ (m3 hst)) (hts _ m2) (hts _ m1) ⟨m6, m7⟩ hK (g := F0 m pc ls (vAs.reverse ++ vr)) rfl (by rw [hml]; exact hsz) (argsL := vAs) (rest := vr) (fun sig h => hn.trans (hpar sig h)) rfl (by show 2 * 0 + _ ≤ 8; omega) (by rw [hb]; exact hd)
    (fun vm₁ hW₁ => ⟨hcap.1, hcap.2, ct_preU hC hp hP hD hS (T0.setVm vm₁) hT hW₁⟩)
  obtain ⟨t2, a1, b1⟩ := ct_on (P := P) (g0 := F0 m pc ls (vAs.reverse ++ vr)) (rest := vr) hT hpost X' hS kk
  exact ⟨t2, st t2 a1, b1⟩
/-! the answers -/
theorem mq_mono {mc ms : Nat} {Q1 : Array Value → State → Outcome → State → Prop} {Q2 : Array Value → State → Outcome → State → Nat → Nat → Prop} {free : Addr → Prop} {g : JFrame} (hq : ∀ o t, Q1 args s o t → Q2 args s o t mc ms) (k : W p l e R s m args below meth c H locs cells slots (MQ below Q1 args s mc ms free) g) : W p l e R s m args below meth c H locs cells slots (mq below Q2 args s free) g := by
  intro T hT X
  obtain ⟨t, a1, o, b1, b2, b3, L, b4, b5⟩ := k T hT X
  exact ⟨t, a1, mc, ms, o, b1, b2, hq o t b3, L, b4, b5⟩
theorem sm_53 (hy1 : 1 ≤ y) (hC : ee_C p s m args meth c D dA xa xt B y) (hs : ee_sc y pc (53, a, b, n) = true) (hrk : ee_rk y = 0) (hP : va_P D ee_cl ws H) (hD : va_D (fun q => B ≤ q) ws) (hS : va_S (fun q => B ≤ q) s.heap H locs) (hq : Qc none ws cells slots) : W p l e R s m args below meth c H locs cells slots (mq below (ct_Post D B Qc) args s (fun q => B ≤ q)) (F0 m pc ls []) := by
  obtain ⟨q, hq9, hd, hn, hx, -⟩ := ee_sc_spec hs
  obtain ⟨he, hb, hml, hown, hts, hG, hB, hlk, hrt, hnm, hyM⟩ := id hC
  obtain ⟨m1, m2, m3, m4, m5, m6, m7, m8, m9, m10, m11, m12, m13⟩ := ee_mth hy1 hyM
  cases (show some (Instr.return_, 1) = some q from hq9)
  have hr0 : ee_rt y = none := by
    rw [hrk] at m13
    split at m13 <;> first | assumption | (exfalso; revert m13; decide)
  exact mq_mono (Q1 := fun a st o t => ct_Post D B Qc a st o t cells slots) (fun _ _ h => h) (W.vret he hb (hrt.trans hr0) (fun t ht hW => ⟨⟨none, ws, rfl, hq, by rw [ht]; exact hP, hD⟩, hS.F ht⟩) hS.2.2 hd hlk)
theorem sm_51 (hy1 : 1 ≤ y) (hC : ee_C p s m args meth c D dA xa xt B y) (hs : ee_sc y pc (51, a, b, n) = true) {xv : Int32} (hrk : ee_rk y = 1 ∨ (ee_rk y = 2 ∧ (xv = 0 ∨ xv = 1))) (hP : va_P D ee_cl ws H) (hD : va_D (fun q => B ≤ q) ws) (hS : va_S (fun q => B ≤ q) s.heap H locs) (hq : Qc (some (.int xv)) ws cells slots) : W p l e R s m args below meth c H locs cells slots (mq below (ct_Post D B Qc) args s (fun q => B ≤ q)) (F0 m pc ls [.int xv]) := by
  obtain ⟨q, hq9, hd, hn, hx, -⟩ := ee_sc_spec hs
  obtain ⟨he, hb, hml, hown, hts, hG, hB, hlk, hrt, hnm, hyM⟩ := id hC
  obtain ⟨m1, m2, m3, m4, m5, m6, m7, m8, m9, m10, m11, m12, m13⟩ := ee_mth hy1 hyM
  cases (show some (Instr.ireturn, 1) = some q from hq9)
  have fin : ∀ ty, ee_rt y = some ty → narrow ty (.int xv) = .int xv → W p l e R s m args below meth c H locs cells slots (mq below (ct_Post D B Qc) args s (fun q => B ≤ q)) (F0 m pc ls [.int xv]) := fun ty hty hnar =>
    mq_mono (Q1 := fun a st o t => ct_Post D B Qc a st o t cells slots) (fun _ _ h => h) (W.zret he hb (hrt.trans hty) hnar (fun t ht hW => ⟨⟨some (.int xv), ws, rfl, hq, by rw [ht]; exact hP, hD⟩, hS.F ht⟩) hS.2.2 hd hlk)
  rcases hrk with e2 | ⟨e2, h01⟩
  · have hr0 : ee_rt y = some .int := by
      rw [e2] at m13
      split at m13 <;> first | assumption | (exfalso; revert m13; decide)
    exact fin _ hr0 rfl
  · have hr0 : ee_rt y = some .boolean := by
      rw [e2] at m13
      split at m13 <;> first | assumption | (exfalso; revert m13; decide)
    refine fin _ hr0 ?_
    rcases h01 with rfl | rfl <;> decide +kernel
theorem sm_52 (hy1 : 1 ≤ y) (hC : ee_C p s m args meth c D dA xa xt B y) (hs : ee_sc y pc (52, a, b, n) = true) {v : Value} (hr : v = .null ∨ ∃ x, v = .ref x) (hrk : ee_rk y = 3) (hP : va_P D ee_cl ws H) (hD : va_D (fun q => B ≤ q) ws) (hS : va_S (fun q => B ≤ q) s.heap H locs) (hq : Qc (some v) ws cells slots) : W p l e R s m args below meth c H locs cells slots (mq below (ct_Post D B Qc) args s (fun q => B ≤ q)) (F0 m pc ls [v]) := by
  obtain ⟨q, hq9, hd, hn, hx, -⟩ := ee_sc_spec hs
  obtain ⟨he, hb, hml, hown, hts, hG, hB, hlk, hrt, hnm, hyM⟩ := id hC
  obtain ⟨m1, m2, m3, m4, m5, m6, m7, m8, m9, m10, m11, m12, m13⟩ := ee_mth hy1 hyM
  cases (show some (Instr.areturn, 1) = some q from hq9)
  have hr0 : ∃ t, ee_rt y = some t ∧ ((∃ n, t = .object n) ∨ ∃ z, t = .array z) := by
    rw [hrk] at m13
    split at m13
    all_goals first
      | (exfalso; revert m13; decide)
      | exact ⟨_, by assumption, Or.inl ⟨_, rfl⟩⟩
      | exact ⟨_, by assumption, Or.inr ⟨_, rfl⟩⟩
  obtain ⟨ty, hty, hty2⟩ := hr0
  exact mq_mono (Q1 := fun a st o t => ct_Post D B Qc a st o t cells slots) (fun _ _ h => h) (W.aret he hb (hrt.trans hty) hty2 hr (fun t ht hW => ⟨⟨some v, ws, rfl, hq, by rw [ht]; exact hP, hD⟩, hS.F ht⟩) hS.2.2 hd hlk)
theorem sm_74 (hy1 : 1 ≤ y) (hC : ee_C p s m args meth c D dA xa xt B y) (hs : ee_sc y pc (74, a, b, n) = true) {xv : Int64} (hrk : ee_rk y = 4) (hP : va_P D ee_cl ws H) (hD : va_D (fun q => B ≤ q) ws) (hS : va_S (fun q => B ≤ q) s.heap H locs) (hq : Qc (some (.long xv)) ws cells slots) : W p l e R s m args below meth c H locs cells slots (mq below (ct_Post D B Qc) args s (fun q => B ≤ q)) (F0 m pc ls [.long xv]) := by
  obtain ⟨q, hq9, hd, hn, hx, -⟩ := ee_sc_spec hs
  obtain ⟨he, hb, hml, hown, hts, hG, hB, hlk, hrt, hnm, hyM⟩ := id hC
  obtain ⟨m1, m2, m3, m4, m5, m6, m7, m8, m9, m10, m11, m12, m13⟩ := ee_mth hy1 hyM
  cases (show some (Instr.lreturn, 1) = some q from hq9)
  have hr0 : ee_rt y = some .long := by
    rw [hrk] at m13
    split at m13 <;> first | assumption | (exfalso; revert m13; decide)
  exact mq_mono (Q1 := fun a st o t => ct_Post D B Qc a st o t cells slots) (fun _ _ h => h) (W.lret he hb (hrt.trans hr0) (fun t ht hW => ⟨⟨some (.long xv), ws, rfl, hq, by rw [ht]; exact hP, hD⟩, hS.F ht⟩) hS.2.2 hd hlk)
/-- a contract out of a walk of the body -/
theorem ct_met (hy1 : 1 ≤ y) (hyM : y < ee_nM) (hlen : ∀ vs ws, P vs ws → (lg_sl vs).length ≤ ee_ml y)
    (body : ∀ (p : Program) (e : Env) (s : State) (m : MethodId) (vs : List Value) (below : List Frame) (meth : Method) (c : Code) (ws : va_W) (ls : Array Slot), ee_C p s m vs.toArray meth c D dA xa xt B y → P vs ws → va_P D ee_cl ws s.heap → va_D (fun q => B ≤ q) ws → va_S (fun q => B ≤ q) s.heap s.heap [] → lv_has ls (ee_ml y) (lv_args 0 vs) →
      W p l e (ee_rm d c' s') s m vs.toArray below meth c s.heap [] 0 0 (mq below (ct_Post D B Qc) vs.toArray s (fun q => B ≤ q)) (F0 m 0 ls [])) :
    ct l D dA xa xt B d y c' s' P Qc := by
  obtain ⟨m1, m2, m3, m4, m5, m6, m7, m8, m9, m10, m11, m12, m13⟩ := ee_mth hy1 hyM
  refine mt_ofW (cc := ee_cb y) (maxL := ee_ml y) (ret := ee_rt y) m5 rfl ?_
  intro p e s m args below meth c s₁ Bd hml hv
  obtain ⟨vs, ws, rfl, hp, hP, hD, hG, hB⟩ := hv
  have hts0 := atoms_spec (ws := ee_wsy y) Bd.pre
  have hts : ∀ w ∈ ee_good, w.before vs.toArray s = true := fun w hw => hts0 w (List.mem_cons_of_mem _ hw)
  have hown : s.vm.findClass (ee_on.getD (ee_yc y) "") = some m.cls := by rw [m9]; exact findClass_of_methodNamed Bd.named
  have hC : ee_C p s m vs.toArray meth c D dA xa xt B y := ⟨Bd.exec, Bd.bytes, hml, hown, hts, hG, hB, Bd.notSynchronized, Bd.returns, (name_of_methodNamed Bd.named Bd.method).1, hyM⟩
  have hl := lv_entry vs (n := ee_ml y) (hlen vs ws hp)
  rw [lg_entry_eq]
  exact body p e s m vs below meth c ws _ hC hp hP hD va_S.rf hl
end CT2
