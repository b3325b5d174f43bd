/-! ===== a field is written ===== -/
theorem ab_find_set {ws : va_W} {kk : Nat} {xx yy : Nat × va_E} (hk : ws[kk]? = some xx) (ha : yy.1 = xx.1) (qq : Nat) : (ws.set kk yy).find? (fun z => z.1 == qq) = ws.find? (fun z => z.1 == qq) ∨ (ws.find? (fun z => z.1 == qq) = some xx ∧ (ws.set kk yy).find? (fun z => z.1 == qq) = some yy) := by
  induction ws generalizing kk with
  | nil => simp at hk
  | cons w ws ih =>
    cases kk with
    | zero =>
      simp at hk
      subst hk
      rw [List.set_cons_zero, List.find?_cons, List.find?_cons, ha]
      cases (w.1 == qq) with
      | true => exact Or.inr ⟨rfl, rfl⟩
      | false => exact Or.inl rfl
    | succ kk =>
      simp at hk
      rw [List.set_cons_succ, List.find?_cons, List.find?_cons]
      cases (w.1 == qq) with
      | true => exact Or.inl rfl
      | false => exact ih hk
theorem ab_map_set {ws : va_W} {kk : Nat} {xx yy : Nat × va_E} (hk : ws[kk]? = some xx) (ha : yy.1 = xx.1) : (ws.set kk yy).map (·.1) = ws.map (·.1) := by
  apply List.ext_getElem?
  intro i
  by_cases hi : i = kk
  · subst hi
    have hlt := (List.getElem?_eq_some_iff.mp hk).1
    rw [List.getElem?_map, List.getElem?_map, List.getElem?_set_self hlt, hk]
    simp [ha]
  · rw [List.getElem?_map, List.getElem?_map, List.getElem?_set_ne (fun z9 => hi z9.symm)]
/-- a clause's word is the same, if no row changed -/
theorem ab_cr_obj {ws : va_W} {kk ax ci : Nat} {fs fs' : List Value} (hk : ws[kk]? = some (ax, .inr (ci, fs))) (ee : va_E) (rr : ab_R) : ab_cr (ws.set kk (ax, .inr (ci, fs'))) ee rr = ab_cr ws ee rr := by
  have har : ∀ (vs : List Value) (aa : Nat), (∃ u, ab_ar (ws.set kk (ax, .inr (ci, fs'))) vs aa = some (u, .inr (ci, fs')) ∧ ab_ar ws vs aa = some (u, .inr (ci, fs))) ∨ ab_ar (ws.set kk (ax, .inr (ci, fs'))) vs aa = ab_ar ws vs aa := by
    intro vs aa
    unfold ab_ar
    split
    · rename_i q9 _
      rcases ab_find_set (yy := (ax, .inr (ci, fs'))) hk rfl q9 with h9 | ⟨h8, h9⟩
      · exact Or.inr h9
      · exact Or.inl ⟨ax, h9, h8⟩
    · exact Or.inr rfl
  obtain ⟨t1, t2, t3, t4⟩ := rr
  unfold ab_cr
  dsimp only
  split
  · rfl
  · rfl
  · rename_i vs9
    rcases har vs9 t2 with ⟨u, h8, h9⟩ | h9
    · rw [h8, h9]
    · rw [h9]
  · rename_i vs9
    rcases har vs9 t2 with ⟨u, h8, h9⟩ | h9
    · rw [h8, h9]
    · rw [h9]
  · rfl
  · rfl
/-- in the object itself, at a place that isn't written -/
theorem ab_cr_self {ws : va_W} {ci jj : Nat} {fs : List Value} {vv : Value} (rr : ab_R) (hn : (0, jj) ∉ ab_fp rr) : ab_cr ws (.inr (ci, fs.set jj vv)) rr = ab_cr ws (.inr (ci, fs)) rr := by
  have hg : ∀ aa, aa ≠ jj → (fs.set jj vv)[aa]? = fs[aa]? := fun aa ha => List.getElem?_set_ne (fun z9 => ha z9.symm)
  have hfi : ∀ aa, aa ≠ jj → ab_fi (fs.set jj vv) aa = ab_fi fs aa := fun aa ha => by unfold ab_fi; rw [hg aa ha]
  have har : ∀ aa, aa ≠ jj → ab_ar ws (fs.set jj vv) aa = ab_ar ws fs aa := fun aa ha => by unfold ab_ar; rw [hg aa ha]
  obtain ⟨t1, t2, t3, t4⟩ := rr
  match t1, hn with
  | 0, hn => exact hfi t2 (fun z9 => hn (by rw [z9]; exact List.mem_cons_self))
  | 1, hn => rfl
  | 2, hn =>
    show (match ab_ar ws (fs.set jj vv) t2 with
      | some (_, .inl (_, n, _)) => some (n : Int)
      | _ => none) = _
    rw [har t2 (fun z9 => hn (by rw [z9]; exact List.mem_cons_self))]
    rfl
  | 3, hn =>
    show (match ab_ar ws (fs.set jj vv) t2, ab_fi (fs.set jj vv) t3 with
      | some (_, .inl (_, n, .inl f)), some x => if 0 ≤ x ∧ 4 * x + (t4 : Int) < (n : Int) then some (f (4 * x + t4).toNat).toInt else none
      | _, _ => none) = _
    rw [har t2 (fun z9 => hn (by rw [z9]; exact List.mem_cons_self)), hfi t3 (fun z9 => hn (by rw [z9]; exact List.mem_cons_of_mem _ List.mem_cons_self))]
    rfl
  | 4, hn => rfl
  | t1 + 5, hn => rfl
theorem ab_hd_same {ws ws' : va_W} {ee ee' : va_E} {cc : ab_Cl} (hh : ∀ rr, (∀ p ∈ ab_fp rr, p ∈ ab_fps cc) → ab_cr ws' ee' rr = ab_cr ws ee rr) (h : ab_hd ws ee cc) : ab_hd ws' ee' cc := by
  intro hg
  have s1 : ∀ g ∈ cc.1, ∀ p ∈ ab_fp g.1, p ∈ ab_fps cc := by
    intro g hgm p hp
    unfold ab_fps
    exact List.mem_append_left _ (List.mem_flatten.mpr ⟨_, List.mem_map.mpr ⟨g, hgm, rfl⟩, hp⟩)
  have s2 : ∀ p ∈ ab_fp cc.2.1.2, p ∈ ab_fps cc := fun p hp => List.mem_append_right _ (List.mem_append_left _ hp)
  obtain ⟨x9, y9, e1, e2, e3⟩ := h (fun g hgm => by
    obtain ⟨x8, w1, w2⟩ := hg g hgm
    rw [hh g.1 (s1 g hgm)] at w1
    exact ⟨x8, w1, w2⟩)
  refine ⟨x9, y9, by rw [hh _ s2]; exact e1, ?_, e3⟩
  by_cases h0 : cc.2.2.1.1 = 0
  · exact Or.inl h0
  · have s3 : ∀ p ∈ ab_fp cc.2.2.1.2, p ∈ ab_fps cc := by
      intro p hp
      unfold ab_fps
      rw [if_neg h0]
      exact List.mem_append_right _ (List.mem_append_right _ hp)
    rcases e2 with e2 | e2
    · exact absurd e2 h0
    · exact Or.inr (by rw [hh _ s3]; exact e2)
theorem ab_CL_put {cls : Nat → List ab_Cl} {ks : List Nat} {ws : va_W} {rv : List Int} {sv : List (Nat × Nat)} {dt : List (Nat × ab_Key)} (hCL : ab_CL cls ks ws rv sv dt) {kk ax ci jj rr : Nat} {fs : List Value} {vv : Value} (hk : ws[kk]? = some (ax, .inr (ci, fs))) (hr : sv[rr]? = some (kk, ax)) :
    ab_CL cls ks (ws.set kk (ax, .inr (ci, fs.set jj vv))) rv sv ((rr, (0, jj, 0, 0)) :: dt) := by
  intro k9 κ a9 e9 g1 g2 cc hc hp
  have hp' : ∀ p ∈ ab_fps cc, ¬ ab_open rv sv dt k9 p := fun p hm ho => hp p hm (by
    obtain ⟨d, hd, rest⟩ := ho
    exact ⟨d, List.mem_cons_of_mem _ hd, rest⟩)
  have hlt := (List.getElem?_eq_some_iff.mp hk).1
  by_cases hkk : k9 = kk
  · subst hkk
    rw [List.getElem?_set_self hlt] at g2
    cases g2
    have hno : (0, jj) ∉ ab_fps cc := fun hm => hp _ hm ⟨_, List.mem_cons_self, (k9, ax), hr, rfl, rfl, rfl⟩
    refine ab_hd_same (fun r9 hr9 => ?_) (hCL k9 κ ax _ g1 hk cc hc hp')
    rw [ab_cr_obj hk]
    exact ab_cr_self r9 (fun hm => hno (hr9 _ hm))
  · rw [List.getElem?_set_ne (fun z9 => hkk z9.symm)] at g2
    exact ab_hd_same (fun r9 _ => ab_cr_obj hk _ r9) (hCL k9 κ a9 e9 g1 g2 cc hc hp')
theorem ab_TW_put {dA : Nat → ClassId} {ks : List Nat} {ws : va_W} (hT : ab_TW dA ks ws) {kk ax ci jj κ : Nat} {fs : List Value} {vv : Value} {ts : List ab_T} {tt : ab_T} (hκ : ks[kk]? = some κ) (hko : ab_ko κ = some (ci, ts)) (hka : ab_ka κ = none) (hk : ws[kk]? = some (ax, .inr (ci, fs))) (ht : ts[jj]? = some tt) (hv : ab_tv ks (ws.map (·.1)) vv tt) : ab_TW dA ks (ws.set kk (ax, .inr (ci, fs.set jj vv))) := by
  have hlt := (List.getElem?_eq_some_iff.mp hk).1
  have hmap := ab_map_set (yy := (ax, .inr (ci, fs.set jj vv))) hk rfl
  refine ⟨by rw [List.length_set]; exact hT.1, fun k9 κ9 h9 => ?_⟩
  rw [hmap]
  obtain ⟨a9, e9, w1, w2⟩ := hT.2 k9 κ9 h9
  by_cases hkk : k9 = kk
  · subst hkk
    rw [hκ] at h9
    cases h9
    rw [hk] at w1
    cases w1
    refine ⟨ax, _, by rw [List.getElem?_set_self hlt], fun ci' ts' hko' => ?_, fun t lo hi hka' => (by rw [hka] at hka'; cases hka'), ab_c3_no (by rintro rfl; cases hka) (by rintro rfl; cases hka)⟩
    rw [hko] at hko'
    cases hko'
    obtain ⟨vs9, e1, e2, e3⟩ := w2.1 _ _ hko
    cases e1
    refine ⟨_, rfl, by rw [List.length_set]; exact e2, fun j9 t9 ht9 => ?_⟩
    by_cases hj : j9 = jj
    · subst hj
      rw [ht] at ht9
      cases ht9
      have hjl : j9 < fs.length := by rw [e2]; exact (List.getElem?_eq_some_iff.mp ht).1
      exact ⟨vv, by rw [List.getElem?_set_self hjl], hv⟩
    · rw [List.getElem?_set_ne (fun z9 => hj z9.symm)]
      exact e3 j9 t9 ht9
  · exact ⟨a9, e9, by rw [List.getElem?_set_ne (fun z9 => hkk z9.symm)]; exact w1, w2⟩
