/-! ===== new objects and arrays, the machine's own members ===== -/
theorem ee_words {args : Array Value} {s : State} {b : Nat} (hts : ∀ w ∈ ee_good, w.before args s = true) (h1 : 1 ≤ b) (h2 : b < ee_nM) : ∀ w ∈ Cond.code (ee_yn b) (ee_cb b) (ee_ml b) (ee_rt b) :: ee_good, ∀ (a' : Array Value) (U : State), s.WarmedH U.vm → w.before a' U = true := by
  intro w hw a' U hW
  have hw' : w ∈ ee_good := by
    rcases List.mem_cons.mp hw with rfl | h
    · exact (ee_mth h1 h2).1
    · exact h
  exact word_at hW (good_of_word (List.mem_filter.mp hw').2) (hts w hw')
section SM3
variable {p : Program} {l : Launch} {e : Env} {R : Room} {s : State} {m : MethodId} {args : Array Value} {below : List Frame} {meth : Method} {c : Code} {Q : State → Prop} {D : va_G} {dA : Nat → ClassId} {xa : List Nat} {xt : ee_X} {B : Nat} {y : Nat}
variable {pc a b n : Nat} {H : Heap} {locs : List Loc} {cells slots : Nat} {ls : Array Slot} {vs : List Value} {ws : va_W}
theorem sm_35 (hC : ee_C p s m args meth c D dA xa xt B y) (hs : ee_sc y pc (35, a, b, n) = true) (hP : va_P D ee_cl ws H) (hD : va_D (fun q => B ≤ q) ws) (hS : va_S (fun q => B ≤ q) s.heap H locs) (hcap : cells + 1 ≤ R.cells ∧ slots + (ee_cx b).2.2 ≤ R.slots)
    (k : ∀ (qa : Nat) (H1 : Heap), va_P D ee_cl (ws ++ [(qa, .inr (b, (List.range (ee_cx b).2.2).map (fun j => defaultValue (ee_ty b j))))]) H1 → va_D (fun q => B ≤ q) (ws ++ [(qa, .inr (b, (List.range (ee_cx b).2.2).map (fun j => defaultValue (ee_ty b j))))]) → va_S (fun q => B ≤ q) s.heap H1 locs → W p l e R s m args below meth c H1 locs (cells + 1) (slots + (ee_cx b).2.2) Q (F0 m (pc + n) ls (.ref qa :: vs))) :
    W p l e R s m args below meth c H locs cells slots Q (F0 m pc ls vs) := by
  obtain ⟨q, hq, hd, hn, hx, -⟩ := ee_sc_spec hs
  obtain ⟨he, hb, hml, hown, hts, hG, hB, -⟩ := id hC
  cases (show some (Instr.new a, 3) = some q from hq)
  cases hn
  have hx' : (ee_rsq y a 3 b && decide (b < ee_cl.length)) = true := hx
  rw [Bool.and_eq_true] at hx'
  obtain ⟨C, T, N, fs0, ecx, ecl, edf, hfl, hin, hty, hnm, hdecl, hins, hini, hkind⟩ := ee_cls (ci := b) (of_decide_eq_true hx'.2)
  rw [ecx] at hcap k
  dsimp only at hcap k
  refine va_new (ci := b) (fs := (List.range N).map (fun j => defaultValue (ee_ty b j))) he hb hts hin (ee_ty b) hty hown (hts _ (ee_word hx'.1 (w := .classLink (ee_on.getD (ee_yc y) "") a C) (by decide) (by decide) (by decide) (by show some _ = _; rw [ecx]))) (hts _ hins) (hts _ hini) hG.1 hP hD hS (fun q h9 => Nat.le_trans hB h9) ecl ?_ hcap.1 hcap.2 hd k
  intro j hj
  show _ = ((List.range N).map (fun j => defaultValue (ee_ty b j))).getD j .null
  simp [List.getD_eq_getElem?_getD, hj]
theorem sm_36i (hC : ee_C p s m args meth c D dA xa xt B y) (hs : ee_sc y pc (36, 0, b, n) = true) (hP : va_P D ee_cl ws H) (hD : va_D (fun q => B ≤ q) ws) (hS : va_S (fun q => B ≤ q) s.heap H locs) {iv : Int32} {N : Nat} (hneg : ¬ iv < 0) (hN : iv.toNatClampNeg = N) (hlt : N ≤ 67108864) (hcap : cells + 1 ≤ R.cells ∧ slots + N ≤ R.slots)
    (k : ∀ (qa : Nat) (H1 : Heap), va_P D ee_cl (ws ++ [(qa, .inl (dA 0, N, .inl (fun _ => 0)))]) H1 → va_D (fun q => B ≤ q) (ws ++ [(qa, .inl (dA 0, N, .inl (fun _ => 0)))]) → va_S (fun q => B ≤ q) s.heap H1 locs → W p l e R s m args below meth c H1 locs (cells + 1) (slots + N) Q (F0 m (pc + n) ls (.ref qa :: vs))) :
    W p l e R s m args below meth c H locs cells slots Q (F0 m pc ls (.int iv :: vs)) := by
  obtain ⟨q, hq, hd, hn, hx, -⟩ := ee_sc_spec hs
  obtain ⟨he, hb, hml, hown, hts, hG, hB, -⟩ := id hC
  cases (show some (Instr.newarray (ee_atp 0), 2) = some q from hq)
  cases hn
  refine va_newa (atype := .int) (ty := .int) (a0 := (N, .inl (fun _ => 0))) he hb (hts _ ee_aw0) rfl hG.1 hP hD hS (fun q h9 => Nat.le_trans hB h9) (fun _ => rfl) hneg hN (by show _ * 4 ≤ _; omega) hcap.1 hcap.2 hd (fun qa cA H1 hK1 hP1 hD1 hS1 => ?_)
  have e1 : cA = dA 0 := Option.some.inj (((hK1.2 7 (cA, .int) rfl).2.symm : some cA = s.vm.findClass _).trans (hG.1.2 0 (dA 0, .int) rfl).2)
  subst e1
  exact k qa H1 hP1 hD1 hS1
theorem sm_36l (hC : ee_C p s m args meth c D dA xa xt B y) (hs : ee_sc y pc (36, 1, b, n) = true) (hP : va_P D ee_cl ws H) (hD : va_D (fun q => B ≤ q) ws) (hS : va_S (fun q => B ≤ q) s.heap H locs) {iv : Int32} {N : Nat} (hneg : ¬ iv < 0) (hN : iv.toNatClampNeg = N) (hlt : N ≤ 67108864) (hcap : cells + 1 ≤ R.cells ∧ slots + N ≤ R.slots)
    (k : ∀ (qa : Nat) (H1 : Heap), va_P D ee_cl (ws ++ [(qa, .inl (dA 1, N, .inr (.inl (fun _ => 0))))]) H1 → va_D (fun q => B ≤ q) (ws ++ [(qa, .inl (dA 1, N, .inr (.inl (fun _ => 0))))]) → va_S (fun q => B ≤ q) s.heap H1 locs → W p l e R s m args below meth c H1 locs (cells + 1) (slots + N) Q (F0 m (pc + n) ls (.ref qa :: vs))) :
    W p l e R s m args below meth c H locs cells slots Q (F0 m pc ls (.int iv :: vs)) := by
  obtain ⟨q, hq, hd, hn, hx, -⟩ := ee_sc_spec hs
  obtain ⟨he, hb, hml, hown, hts, hG, hB, -⟩ := id hC
  cases (show some (Instr.newarray (ee_atp 1), 2) = some q from hq)
  cases hn
  refine va_newa (atype := .long) (ty := .long) (a0 := (N, .inr (.inl (fun _ => 0)))) he hb (hts _ ee_aw1) rfl hG.1 hP hD hS (fun q h9 => Nat.le_trans hB h9) (fun _ => rfl) hneg hN (by show _ * 8 ≤ _; omega) hcap.1 hcap.2 hd (fun qa cA H1 hK1 hP1 hD1 hS1 => ?_)
  have e1 : cA = dA 1 := Option.some.inj (((hK1.2 7 (cA, .long) rfl).2.symm : some cA = s.vm.findClass _).trans (hG.1.2 1 (dA 1, .long) rfl).2)
  subst e1
  exact k qa H1 hP1 hD1 hS1
theorem sm_36z (hC : ee_C p s m args meth c D dA xa xt B y) (hs : ee_sc y pc (36, 2, b, n) = true) (hP : va_P D ee_cl ws H) (hD : va_D (fun q => B ≤ q) ws) (hS : va_S (fun q => B ≤ q) s.heap H locs) {iv : Int32} {N : Nat} (hneg : ¬ iv < 0) (hN : iv.toNatClampNeg = N) (hlt : N ≤ 67108864) (hcap : cells + 1 ≤ R.cells ∧ slots + N ≤ R.slots)
    (k : ∀ (qa : Nat) (H1 : Heap), va_P D ee_cl (ws ++ [(qa, .inl (dA 2, N, .inl (fun _ => 0)))]) H1 → va_D (fun q => B ≤ q) (ws ++ [(qa, .inl (dA 2, N, .inl (fun _ => 0)))]) → va_S (fun q => B ≤ q) s.heap H1 locs → W p l e R s m args below meth c H1 locs (cells + 1) (slots + N) Q (F0 m (pc + n) ls (.ref qa :: vs))) :
    W p l e R s m args below meth c H locs cells slots Q (F0 m pc ls (.int iv :: vs)) := by
  obtain ⟨q, hq, hd, hn, hx, -⟩ := ee_sc_spec hs
  obtain ⟨he, hb, hml, hown, hts, hG, hB, -⟩ := id hC
  cases (show some (Instr.newarray (ee_atp 2), 2) = some q from hq)
  cases hn
  refine va_newa (atype := .boolean) (ty := .boolean) (a0 := (N, .inl (fun _ => 0))) he hb (hts _ ee_aw2) rfl hG.1 hP hD hS (fun q h9 => Nat.le_trans hB h9) (fun _ => rfl) hneg hN (by show _ * 1 ≤ _; omega) hcap.1 hcap.2 hd (fun qa cA H1 hK1 hP1 hD1 hS1 => ?_)
  have e1 : cA = dA 2 := Option.some.inj (((hK1.2 7 (cA, .boolean) rfl).2.symm : some cA = s.vm.findClass _).trans (hG.1.2 2 (dA 2, .boolean) rfl).2)
  subst e1
  exact k qa H1 hP1 hD1 hS1
theorem sm_37 (hC : ee_C p s m args meth c D dA xa xt B y) (hs : ee_sc y pc (37, a, b, n) = true) (hP : va_P D ee_cl ws H) (hD : va_D (fun q => B ≤ q) ws) (hS : va_S (fun q => B ≤ q) s.heap H locs) {iv : Int32} {N : Nat} (hneg : ¬ iv < 0) (hN : iv.toNatClampNeg = N) (hlt : N ≤ 1000000) (hcap : cells + 1 ≤ R.cells ∧ slots + N ≤ R.slots)
    (k : ∀ (qa : Nat) (H1 : Heap), 3 ≤ b → b ≤ 6 → va_P D ee_cl (ws ++ [(qa, .inl (dA b, N, .inr (.inr (.inr (.inr (fun _ => none))))))]) H1 → va_D (fun q => B ≤ q) (ws ++ [(qa, .inl (dA b, N, .inr (.inr (.inr (.inr (fun _ => none))))))]) → va_S (fun q => B ≤ q) s.heap H1 locs → W p l e R s m args below meth c H1 locs (cells + 1) (slots + N) Q (F0 m (pc + n) ls (.ref qa :: vs))) :
    W p l e R s m args below meth c H locs cells slots Q (F0 m pc ls (.int iv :: vs)) := by
  obtain ⟨q, hq, hd, hn, hx, -⟩ := ee_sc_spec hs
  obtain ⟨he, hb, hml, hown, hts, hG, hB, -⟩ := id hC
  cases (show some (Instr.anewarray a, 3) = some q from hq)
  cases hn
  have hx' : (ee_rsq y a 3 (ee_ec b) && decide (3 ≤ b ∧ b ≤ 6)) = true := hx
  rw [Bool.and_eq_true] at hx'
  obtain ⟨hb3, hb6⟩ := of_decide_eq_true hx'.2
  have hlink := hts _ (ee_word hx'.1 (w := .classLink (ee_on.getD (ee_yc y) "") a (ee_cx (ee_ec b)).1) (by decide) (by decide) (by decide) rfl)
  have key : ∀ C : String, (Cond.classLink (ee_on.getD (ee_yc y) "") a C).before args s = true → C ∈ ee_ao → (ee_tys dA)[b]? = some (dA b, .object C) → W p l e R s m args below meth c H locs cells slots Q (F0 m pc ls (.int iv :: vs)) := by
    intro C hcl9 hao htb
    refine va_newq he hb hown hcl9 (hG.2.2.1 C hao) hG.1 hP hD hS (fun q h9 => Nat.le_trans hB h9) hneg hN (by omega) hcap.1 hcap.2 hd (fun qa cA H1 hK1 hP1 hD1 hS1 => ?_)
    obtain ⟨kA, comp, x1, x2, x3, x4⟩ := (hK1.2 7 (cA, .object C) rfl).2
    obtain ⟨kA', comp', y1, y2, y3, y4⟩ := (hG.1.2 b (dA b, .object C) htb).2
    have e1 : cA = dA b := Option.some.inj (x4.symm.trans y4)
    subst e1
    exact k qa H1 hb3 hb6 hP1 hD1 hS1
  rcases (show b = 3 ∨ b = 4 ∨ b = 5 ∨ b = 6 by omega) with rfl | rfl | rfl | rfl
  · exact key ee_c4 hlink (by simp [ee_ao]) rfl
  · exact key ee_c5 hlink (by simp [ee_ao]) rfl
  · exact key ee_c3 hlink (by simp [ee_ao]) rfl
  · exact key ee_c10 hlink (by simp [ee_ao]) rfl
theorem sm_38 {d : Nat} (hR : d ≤ R.frames ∧ 40 * d ≤ R.locals) (hd0 : 0 < d) (hC : ee_C p s m args meth c D dA xa xt B y) (hs : ee_sc y pc (38, a, b, n) = true) (hsz : ls.size = ee_ml y) (hcat : (vs.map fun v => v.category).sum ≤ 8) {ax : Nat}
    (k : W p l e R s m args below meth c H locs cells slots Q (F0 m (pc + n) ls vs)) : W p l e R s m args below meth c H locs cells slots Q (F0 m pc ls (.ref ax :: vs)) := by
  obtain ⟨q, hq, hd, hn, hx, -⟩ := ee_sc_spec hs
  obtain ⟨he, hb, hml, hown, hts, hG, hB, -⟩ := id hC
  cases (show some (Instr.invokespecial a, 3) = some q from hq)
  cases hn
  exact W.objInit (a := ax) (rest := vs) he hb hown (hts _ (ee_word (show ee_rsq y a 10 0 = true from hx) (w := .methodLink (ee_on.getD (ee_yc y) "") a objectInit) (by decide) (by decide) (by decide) rfl)) (hts _ ee_ow1) (hts _ ee_ow2) rfl (by rw [hml]; exact hsz) rfl hd (by omega) (by show 2 * 0 + _ + 12 ≤ _; omega) k
theorem sm_55 {d : Nat} (hR : d ≤ R.frames ∧ 40 * d ≤ R.locals) (hd0 : 0 < d) (hC : ee_C p s m args meth c D dA xa xt B y) (hs : ee_sc y pc (55, a, b, n) = true) (hsz : ls.size = ee_ml y) (hcat : (vs.map fun v => v.category).sum ≤ 8) (hcap : cells ≤ R.cells ∧ slots ≤ R.slots) {xv yv : Int32}
    (k : W p l e R s m args below meth c H locs cells slots Q (F0 m (pc + n) ls (.int (if yv < xv then yv else xv) :: vs))) : W p l e R s m args below meth c H locs cells slots Q (F0 m pc ls (.int yv :: .int xv :: vs)) := by
  obtain ⟨q, hq, hd, hn, hx, -⟩ := ee_sc_spec hs
  obtain ⟨he, hb, hml, hown, hts, hG, hB, -⟩ := id hC
  cases (show some (Instr.invokestatic a, 3) = some q from hq)
  cases hn
  exact va_mmin he hb (by rw [hml, hsz]) hown (hts _ (ee_word (show ee_rsq y a 11 0 = true from hx) (w := .methodLink (ee_on.getD (ee_yc y) "") a Lib.Math.min.name) (by decide) (by decide) (by decide) rfl)) (hts _ ee_nw1) (hts _ ee_nw2) (hts _ ee_nw3) (by omega) (by omega) hcap.1 hcap.2 hd k
theorem sm_43 {d : Nat} (hR : d ≤ R.frames ∧ 40 * d ≤ R.locals) (hd0 : 0 < d) (hC : ee_C p s m args meth c D dA xa xt B y) (hs : ee_sc y pc (43, a, b, n) = true) (hsz : ls.size = ee_ml y) (hcat : (vs.map fun v => v.category).sum ≤ 8)
    (hP : va_P D ee_cl ws H) (hD : va_D (fun q => B ≤ q) ws) (hS : va_S (fun q => B ≤ q) s.heap H locs) {k0 k1 ax0 ax1 n0 n1 : Nat} {f0 f1 : Nat → Int32} (hws0 : ws[k0]? = some (ax0, .inl (dA 0, n0, .inl f0))) (hws1 : ws[k1]? = some (ax1, .inl (dA 0, n1, .inl f1)))
    {xs xd xn : Int32} (p5 : ¬ xs < 0) (p3 : ¬ xd < 0) (p1 : ¬ xn < 0) (h4 : xs.toNatClampNeg + xn.toNatClampNeg ≤ n0) (h5 : xd.toNatClampNeg + xn.toNatClampNeg ≤ n1)
    (k : ∀ (H1 : Heap) (locs1 : List Loc), va_P D ee_cl (ws.set k1 (ax1, .inl (dA 0, n1, .inl (va_cpy f0 f1 xs.toNatClampNeg xd.toNatClampNeg xn.toNatClampNeg)))) H1 → va_D (fun q => B ≤ q) (ws.set k1 (ax1, .inl (dA 0, n1, .inl (va_cpy f0 f1 xs.toNatClampNeg xd.toNatClampNeg xn.toNatClampNeg)))) → va_S (fun q => B ≤ q) s.heap H1 locs1 → W p l e R s m args below meth c H1 locs1 cells slots Q (F0 m (pc + n) ls vs)) :
    W p l e R s m args below meth c H locs cells slots Q (F0 m pc ls (.int xn :: .int xd :: .ref ax1 :: .int xs :: .ref ax0 :: vs)) := by
  obtain ⟨q, hq, hd, hn, hx, -⟩ := ee_sc_spec hs
  obtain ⟨he, hb, hml, hown, hts, hG, hB, -⟩ := id hC
  cases (show some (Instr.invokestatic a, 3) = some q from hq)
  cases hn
  exact va_copyi (n := xn) (sp := xs) (dp := xd) he hb (by rw [hml, hsz]) hown (hts _ (ee_word (show ee_rsq y a 9 0 = true from hx) (w := .methodLink (ee_on.getD (ee_yc y) "") a arraycopyName) (by decide) (by decide) (by decide) rfl)) (hts _ ee_yw1) (hts _ ee_yw2) (hts _ ee_yw3) hG.1 hP hD hS k0 k1 0 0 hws0 hws1 rfl rfl rfl p5 p3 p1 h4 h5 (fun i hi => rfl) (by omega) (by have h77 : nativeFrameWords "java/lang/System" "arraycopy" 5 ≤ 21 := (by decide); omega) hd k
end SM3
