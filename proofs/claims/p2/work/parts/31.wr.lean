/-! ===== a row is written: what stays ===== -/
def ab_rgs (cc : ab_Cl) : List ab_R := cc.1.map (·.1) ++ (cc.2.1.2 :: (if cc.2.2.1.1 = 0 then [] else [cc.2.2.1.2]))
/-- rows that clauses look into are of kind 17, and of no other -/
def ab_cok (cls : Nat → List ab_Cl) : Prop := ∀ κ cc, cc ∈ cls κ → ∀ rr ∈ ab_rgs cc, rr.1 = 3 → ∃ ci ts mm, ab_ko κ = some (ci, ts) ∧ ts[rr.2.1]? = some (.inr (.inl mm)) ∧ mm / 2 = 17
theorem ab_fps_of {cc : ab_Cl} {rr : ab_R} (hr : rr ∈ ab_rgs cc) {pp : Nat × Nat} (hp : pp ∈ ab_fp rr) : pp ∈ ab_fps cc := by
  unfold ab_rgs at hr
  unfold ab_fps
  rcases List.mem_append.mp hr with hr | hr
  · obtain ⟨g9, hg, rfl⟩ := List.mem_map.mp hr
    exact List.mem_append_left _ (List.mem_flatten.mpr ⟨_, List.mem_map.mpr ⟨g9, hg, rfl⟩, hp⟩)
  · rcases List.mem_cons.mp hr with rfl | hr
    · exact List.mem_append_right _ (List.mem_append_left _ hp)
    · by_cases h0 : cc.2.2.1.1 = 0
      · rw [if_pos h0] at hr; cases hr
      · rw [if_neg h0] at hr ⊢
        rcases List.mem_cons.mp hr with rfl | hr
        · exact List.mem_append_right _ (List.mem_append_right _ hp)
        · cases hr
theorem ab_hd_same2 {ws ws' : va_W} {ee ee' : va_E} {cc : ab_Cl} (hh : ∀ rr ∈ ab_rgs cc, ab_cr ws' ee' rr = ab_cr ws ee rr) (h : ab_hd ws ee cc) : ab_hd ws' ee' cc := by
  intro hg
  have s1 : ∀ g ∈ cc.1, g.1 ∈ ab_rgs cc := fun g hgm => List.mem_append_left _ (List.mem_map.mpr ⟨g, hgm, rfl⟩)
  have s2 : cc.2.1.2 ∈ ab_rgs cc := List.mem_append_right _ List.mem_cons_self
  obtain ⟨x9, y9, e1, e2, e3⟩ := h (fun g hgm => by
    obtain ⟨x8, w1, w2⟩ := hg g hgm
    rw [hh g.1 (s1 g hgm)] at w1
    exact ⟨x8, w1, w2⟩)
  refine ⟨x9, y9, by rw [hh _ s2]; exact e1, ?_, e3⟩
  by_cases h0 : cc.2.2.1.1 = 0
  · exact Or.inl h0
  · have s3 : cc.2.2.1.2 ∈ ab_rgs cc := by
      unfold ab_rgs
      rw [if_neg h0]
      exact List.mem_append_right _ (List.mem_cons_of_mem _ List.mem_cons_self)
    rcases e2 with e2 | e2
    · exact absurd e2 h0
    · exact Or.inr (by rw [hh _ s3]; exact e2)
theorem ab_cr_nows {ws ws' : va_W} {ee : va_E} {rr : ab_R} (hr : rr.1 = 0 ∨ rr.1 = 1) : ab_cr ws' ee rr = ab_cr ws ee rr := by
  obtain ⟨t1, t2, t3, t4⟩ := rr
  rcases hr with hr | hr
  · have hr' : t1 = 0 := hr
    subst hr'
    match ee with
    | .inr (ci, vs) => rfl
    | .inl (cA, n, .inl f) => rfl
    | .inl (cA, n, .inr f) => rfl
  · have hr' : t1 = 1 := hr
    subst hr'
    match ee with
    | .inr (ci, vs) => rfl
    | .inl (cA, n, .inl f) => rfl
    | .inl (cA, n, .inr f) => rfl
theorem ab_cr_arr {ws : va_W} {zz : ClassId × vp_A} {rr : ab_R} (hr : rr.1 ≠ 1) : ab_cr ws (.inl zz) rr = none := by
  obtain ⟨t1, t2, t3, t4⟩ := rr
  match t1, zz, hr with
  | 0, (cA, n, .inl f), _ => rfl
  | 0, (cA, n, .inr f), _ => rfl
  | 1, _, hr => exact absurd rfl hr
  | 2, (cA, n, .inl f), _ => rfl
  | 2, (cA, n, .inr f), _ => rfl
  | 3, (cA, n, .inl f), _ => rfl
  | 3, (cA, n, .inr f), _ => rfl
  | t1 + 4, (cA, n, .inl f), _ => rfl
  | t1 + 4, (cA, n, .inr f), _ => rfl
section WR
variable {cls : Nat → List ab_Cl} {dA : Nat → ClassId} {xa : List Nat} {ks : List Nat} {ws : va_W} {rv : List Int} {sv : List (Nat × Nat)} {h : ab_H}
theorem ab_CL_arr {A : Nat → Prop} {dt dt' : List (Nat × ab_Key)} (hCL : ab_CL cls ks ws rv sv dt) (hok : ab_cok cls) (hT : ab_TW dA ks ws) (hD : va_D A ws) {kk ax κ N : Nat} {cA : ClassId} {c1 c2 : (Nat → Int32) ⊕ ((Nat → Int64) ⊕ ((Nat → UInt32) ⊕ ((Nat → UInt64) ⊕ (Nat → Option Nat))))}
    (hk : ws[kk]? = some (ax, .inl (cA, N, c1))) (hκ : ks[kk]? = some κ) (him : κ ≠ 17) (hsub : ∀ d ∈ dt, d ∈ dt') (hX : ∀ rr : ab_R, rr.1 = 1 → ¬ ab_open rv sv dt' kk (1, rr.2.1) → ab_cr ws (.inl (cA, N, c2)) rr = ab_cr ws (.inl (cA, N, c1)) rr) : ab_CL cls ks (ws.set kk (ax, .inl (cA, N, c2))) rv sv dt' := by
  intro k9 κ9 a9 e9 g1 g2 cc hc hp
  have hp' : ∀ p ∈ ab_fps cc, ¬ ab_open rv sv dt k9 p := fun p hm ho => hp p hm (by
    obtain ⟨d, hd, rest⟩ := ho
    exact ⟨d, hsub d hd, rest⟩)
  have hlt := (List.getElem?_eq_some_iff.mp hk).1
  have har : ∀ (vs : List Value) (aa : Nat), (vs[aa]? = some (.ref ax) ∧ ab_ar (ws.set kk (ax, .inl (cA, N, c2))) vs aa = some (ax, .inl (cA, N, c2)) ∧ ab_ar ws vs aa = some (ax, .inl (cA, N, c1))) ∨ ab_ar (ws.set kk (ax, .inl (cA, N, c2))) vs aa = ab_ar ws vs aa := by
    intro vs aa
    unfold ab_ar
    split
    · rename_i q9 hq9
      rcases ab_find_set (yy := (ax, .inl (cA, N, c2))) hk rfl q9 with h9 | ⟨h8, h9⟩
      · exact Or.inr h9
      · have h7 := List.find?_some h8
        have h6 : ax = q9 := by simpa using h7
        subst h6
        exact Or.inl ⟨hq9, h9, h8⟩
    · exact Or.inr rfl
  by_cases hkk : k9 = kk
  · subst hkk
    rw [List.getElem?_set_self hlt] at g2
    cases g2
    refine ab_hd_same2 (fun rr hr => ?_) (hCL k9 κ9 ax _ g1 hk cc hc hp')
    by_cases ht : rr.1 = 1
    · obtain ⟨t1, t2, t3, t4⟩ := rr
      have ht' : t1 = 1 := ht
      subst ht'
      rw [ab_cr_nows (ws := ws) (Or.inr rfl)]
      exact hX (1, t2, t3, t4) rfl (hp _ (ab_fps_of hr List.mem_cons_self))
    · rw [ab_cr_arr ht, ab_cr_arr ht]
  · rw [List.getElem?_set_ne (fun z9 => hkk z9.symm)] at g2
    refine ab_hd_same2 (fun rr hr => ?_) (hCL k9 κ9 a9 e9 g1 g2 cc hc hp')
    obtain ⟨t1, t2, t3, t4⟩ := rr
    match t1, e9, g2, hr with
    | 0, _, _, hr => exact ab_cr_nows (Or.inl rfl)
    | 1, _, _, hr => exact ab_cr_nows (Or.inr rfl)
    | 2, .inl z9, _, hr => rw [ab_cr_arr (show (2 : Nat) ≠ 1 by decide), ab_cr_arr (show (2 : Nat) ≠ 1 by decide)]
    | 2, .inr (ci, vs), g2, hr =>
      show (match ab_ar (ws.set kk (ax, .inl (cA, N, c2))) vs t2 with
        | some (_, .inl (_, n, _)) => some (n : Int)
        | _ => none) = (match ab_ar ws vs t2 with
        | some (_, .inl (_, n, _)) => some (n : Int)
        | _ => none)
      rcases har vs t2 with ⟨-, h8, h9⟩ | h9
      · rw [h8, h9]
      · rw [h9]
    | 3, .inl z9, _, hr => rw [ab_cr_arr (show (3 : Nat) ≠ 1 by decide), ab_cr_arr (show (3 : Nat) ≠ 1 by decide)]
    | 3, .inr (ci, vs), g2, hr =>
      show (match ab_ar (ws.set kk (ax, .inl (cA, N, c2))) vs t2, ab_fi vs t3 with
        | some (_, .inl (_, n, .inl f)), some x => if 0 ≤ x ∧ 4 * x + (t4 : Int) < (n : Int) then some (f (4 * x + t4).toNat).toInt else none
        | _, _ => none) = (match ab_ar ws vs t2, ab_fi vs t3 with
        | some (_, .inl (_, n, .inl f)), some x => if 0 ≤ x ∧ 4 * x + (t4 : Int) < (n : Int) then some (f (4 * x + t4).toNat).toInt else none
        | _, _ => none)
      rcases har vs t2 with ⟨h7, h8, h9⟩ | h9
      · exfalso
        obtain ⟨ci9, ts9, mm, o1, o2, o3⟩ := hok κ9 cc hc _ hr rfl
        obtain ⟨a8, e8, w1, w2⟩ := hT.2 k9 κ9 g1
        rw [g2] at w1
        cases w1
        obtain ⟨vs8, x1, x2, x3⟩ := w2.1 _ _ o1
        cases x1
        obtain ⟨v8, y1, y2⟩ := x3 _ _ o2
        have y1' : vs[t2]? = some v8 := y1
        rw [h7] at y1'
        cases y1'
        rcases y2 with ⟨k7, a7, z1, z2, z3⟩ | ⟨-, z3⟩
        · cases z3
          rw [List.getElem?_map] at z2
          cases hw7 : ws[k7]? with
          | none => rw [hw7] at z2; cases z2
          | some q7 =>
            rw [hw7] at z2
            have e7 : q7.1 = ax := Option.some.inj z2
            have hk7 : k7 = kk := hD.1 k7 kk q7 _ hw7 hk e7
            subst hk7
            rw [hκ] at z1
            exact him ((Option.some.inj z1).trans o3)
        · cases z3
      · rw [h9]
    | t1 + 4, .inl z9, _, hr => rw [ab_cr_arr (show t1 + 4 ≠ 1 by omega), ab_cr_arr (show t1 + 4 ≠ 1 by omega)]
    | t1 + 4, .inr (ci, vs), _, hr => rfl
theorem ab_TW_arr (hT : ab_TW dA ks ws) {kk ax κ : Nat} {e1 e2 : va_E} (hk : ws[kk]? = some (ax, e1)) (hκ : ks[kk]? = some κ) (hc : ab_cell dA ks (ws.map (·.1)) κ e2) : ab_TW dA ks (ws.set kk (ax, e2)) := by
  have hlt := (List.getElem?_eq_some_iff.mp hk).1
  have hmap := ab_map_set (yy := (ax, e2)) hk rfl
  refine ⟨by rw [List.length_set]; exact hT.1, fun k9 κ9 h9 => ?_⟩
  rw [hmap]
  obtain ⟨a9, e9, w1, w2⟩ := hT.2 k9 κ9 h9
  by_cases hkk : k9 = kk
  · subst hkk
    rw [hκ] at h9
    cases h9
    exact ⟨ax, e2, by rw [List.getElem?_set_self hlt], hc⟩
  · exact ⟨a9, e9, by rw [List.getElem?_set_ne (fun z9 => hkk z9.symm)]; exact w1, w2⟩
theorem ab_Kn_set {rk : List Nat} (hK : ab_Kn ks ws sv rk) {kk ax : Nat} {e1 e2 : va_E} (hk : ws[kk]? = some (ax, e1)) : ab_Kn ks (ws.set kk (ax, e2)) sv rk := by
  have hlt := (List.getElem?_eq_some_iff.mp hk).1
  refine ⟨hK.1, fun i9 κ9 h9 => ?_⟩
  obtain ⟨q8, e7, w1, w2, w3⟩ := hK.2 i9 κ9 h9
  by_cases hne : q8.1 = kk
  · refine ⟨q8, e2, w1, w2, ?_⟩
    rw [hne] at w3 ⊢
    rw [hk] at w3
    have e6 : ax = q8.2 := congrArg Prod.fst (Option.some.inj w3)
    rw [List.getElem?_set_self hlt, e6]
  · exact ⟨q8, e7, w1, w2, by rw [List.getElem?_set_ne (fun z9 => hne z9.symm)]; exact w3⟩
/-- a fact stays if its place reads the same -/
theorem ab_fact_set {kk ax : Nat} {e1 e2 : va_E} (hk : ws[kk]? = some (ax, e1)) {f9 : ab_F} (hf : ab_fact rv sv xa ws f9) (hs : ∀ ii, sv[f9.1]? = some (kk, ax) → ab_ki rv f9.2.1 = some ii → ab_rd e2 f9.2.1.1 ii = ab_rd e1 f9.2.1.1 ii) : ab_fact rv sv xa (ws.set kk (ax, e2)) f9 := by
  have hlt := (List.getElem?_eq_some_iff.mp hk).1
  obtain ⟨qf, ef, ii, vf, f1, f2, f3, f4, f5⟩ := hf
  by_cases hne : qf.1 = kk
  · have hqf : qf = (kk, ax) := by
      rw [hne, hk] at f2
      have e6 : ax = qf.2 := congrArg Prod.fst (Option.some.inj f2)
      exact Prod.ext hne e6.symm
    subst hqf
    rw [hk] at f2
    cases f2
    exact ⟨(kk, ax), e2, ii, vf, f1, by rw [List.getElem?_set_self hlt], f3, by rw [hs ii f1 f3]; exact f4, f5⟩
  · exact ⟨qf, ef, ii, vf, f1, by rw [List.getElem?_set_ne (fun z9 => hne z9.symm)]; exact f2, f3, f4, f5⟩
/-- facts that a write of place f of kind κ leaves: other kinds, lengths, places that are apart -/
def ab_kx (h : ab_H) (κ : Nat) (f : ab_L) : List ab_F → List ab_F
  | [] => []
  | g :: fs => bif Nat.beq g.2.1.1 (nat_lit 1) && ((match ee_nth h.2.2.1 g.1 with
      | some κ' => Nat.beq κ' κ
      | none => true) && !((match ab_dl h f g.2.1.2 with
        | some d => decide (1 ≤ d)
        | none => false) || (match ab_dl h g.2.1.2 f with
        | some d => decide (1 ≤ d)
        | none => false))) then ab_kx h κ f fs else g :: ab_kx h κ f fs
theorem ab_kx_in {κ : Nat} {f : ab_L} {fs : List ab_F} {g : ab_F} (hg : g ∈ ab_kx h κ f fs) : g ∈ fs ∧ (g.2.1.1 ≠ 1 ∨ (∃ κ', h.2.2.1[g.1]? = some κ' ∧ κ' ≠ κ) ∨ (∃ d, ab_dl h f g.2.1.2 = some d ∧ 1 ≤ d) ∨ ∃ d, ab_dl h g.2.1.2 f = some d ∧ 1 ≤ d) := by
  induction fs with
  | nil => cases hg
  | cons g9 fs ih =>
    unfold ab_kx at hg
    cases hc : (Nat.beq g9.2.1.1 (nat_lit 1) && ((match ee_nth h.2.2.1 g9.1 with
      | some κ' => Nat.beq κ' κ
      | none => true) && !((match ab_dl h f g9.2.1.2 with
        | some d => decide (1 ≤ d)
        | none => false) || (match ab_dl h g9.2.1.2 f with
        | some d => decide (1 ≤ d)
        | none => false)))) with
    | true => rw [ee_ct hc] at hg; exact ⟨List.mem_cons_of_mem _ (ih hg).1, (ih hg).2⟩
    | false =>
      rw [ee_cf hc] at hg
      rcases List.mem_cons.mp hg with rfl | hg
      · refine ⟨List.mem_cons_self, ?_⟩
        rw [Bool.and_eq_false_iff, Bool.and_eq_false_iff] at hc
        rcases hc with hc | hc | hc
        · refine Or.inl (fun z9 => ?_)
          rw [z9] at hc
          cases hc
        · split at hc
          · rename_i κ' hκ'
            rw [ee_nth_eq] at hκ'
            exact Or.inr (Or.inl ⟨κ', hκ', fun z9 => by rw [z9, Nat.beq_refl] at hc; cases hc⟩)
          · cases hc
        · rw [Bool.not_eq_false', Bool.or_eq_true] at hc
          rcases hc with hc | hc
          · split at hc
            · rename_i d hd
              exact Or.inr (Or.inr (Or.inl ⟨d, hd, by simpa using hc⟩))
            · cases hc
          · split at hc
            · rename_i d hd
              exact Or.inr (Or.inr (Or.inr ⟨d, hd, by simpa using hc⟩))
            · cases hc
      · exact ⟨List.mem_cons_of_mem _ (ih hg).1, (ih hg).2⟩
/-- such a fact's place, if it is in the row that is written, isn't the one written -/
theorem ab_kx_ne (hG : ab_G cls dA xa ks ws rv sv h) {κ kk ax : Nat} {f : ab_L} {fs : List ab_F} {g : ab_F} (hg : g ∈ ab_kx h κ f fs) (hκ : ks[kk]? = some κ) (hq : sv[g.1]? = some (kk, ax)) {xx ii : Int} (hx : ab_ev rv f = some xx) (hi : ab_ki rv g.2.1 = some ii) (h1 : g.2.1.1 = 1) : ii ≠ xx := by
  obtain ⟨-, hor⟩ := ab_kx_in hg
  obtain ⟨i8, ⟨t8, l8⟩, a8⟩ := g
  dsimp only at *
  subst h1
  have hi' : ab_ev rv l8 = some ii := hi
  rcases hor with h9 | ⟨κ', h8, h9⟩ | ⟨d, h8, h9⟩ | ⟨d, h8, h9⟩
  · exact absurd rfl h9
  · exfalso
    obtain ⟨q7, e7, w1, w2, w3⟩ := hG.2.2.1.2 _ κ' h8
    rw [hq] at w1
    cases w1
    rw [hκ] at w2
    exact h9 (Option.some.inj w2).symm
  · have d9 := ab_dl_in hG.1 hG.2.1 hx hi' h8
    omega
  · have d9 := ab_dl_in hG.1 hG.2.1 hi' hx h8
    omega
end WR
