/-! ===== a row is written: what stays ===== -/
def ab_rgs (cc : ab_Cl) : List ab_R := cc.1.map (·.1) ++ (cc.2.1.2 :: (if cc.2.2.1.1 = 0 then [] else [cc.2.2.1.2]))
/-- rows that clauses look into are of kind 17, and of no other -/
def ab_cok (cls : Nat → List ab_Cl) : Prop := ∀ κ cc, cc ∈ cls κ → ∀ rr ∈ ab_rgs cc, (rr.1 = 3 → ∃ ci ts mm, ab_ko κ = some (ci, ts) ∧ ts[rr.2.1]? = some (.inr (.inl mm)) ∧ mm / 2 = 17) ∧ (rr.1 = 4 → κ = 37)
theorem ab_fps_of {cc : ab_Cl} {rr : ab_R} (hr : rr ∈ ab_rgs cc) {pp : Nat × Nat} (hp : pp ∈ ab_fp rr) : pp ∈ ab_fps cc := by
  unfold ab_rgs at hr
  unfold ab_fps
  rcases List.mem_append.mp hr with hr | hr
  · obtain ⟨g9, hg, rfl⟩ := List.mem_map.mp hr
    exact List.mem_append_left _ (List.mem_flatten.mpr ⟨_, List.mem_map.mpr ⟨g9, hg, rfl⟩, hp⟩)
  · rcases List.mem_cons.mp hr with rfl | hr
    · exact List.mem_append_right _ (List.mem_append_left _ hp)
    · by_cases h0 : cc.2.2.1.1 = 0
      · rw [if_pos h0] at hr; cases hr
      · rw [if_neg h0] at hr ⊢
        rcases List.mem_cons.mp hr with rfl | hr
        · exact List.mem_append_right _ (List.mem_append_right _ hp)
        · cases hr
theorem ab_hd_same2 {ws ws' : va_W} {ee ee' : va_E} {cc : ab_Cl} (hh : ∀ rr ∈ ab_rgs cc, ab_cr ws' ee' rr = ab_cr ws ee rr) (h : ab_hd ws ee cc) : ab_hd ws' ee' cc := by
  intro hg
  have s1 : ∀ g ∈ cc.1, g.1 ∈ ab_rgs cc := fun g hgm => List.mem_append_left _ (List.mem_map.mpr ⟨g, hgm, rfl⟩)
  have s2 : cc.2.1.2 ∈ ab_rgs cc := List.mem_append_right _ List.mem_cons_self
  obtain ⟨x9, y9, e1, e2, e3⟩ := h (fun g hgm => by
    obtain ⟨x8, w1, w2⟩ := hg g hgm
    rw [hh g.1 (s1 g hgm)] at w1
    exact ⟨x8, w1, w2⟩)
  refine ⟨x9, y9, by rw [hh _ s2]; exact e1, ?_, e3⟩
  by_cases h0 : cc.2.2.1.1 = 0
  · exact Or.inl h0
  · have s3 : cc.2.2.1.2 ∈ ab_rgs cc := by
      unfold ab_rgs
      rw [if_neg h0]
      exact List.mem_append_right _ (List.mem_cons_of_mem _ List.mem_cons_self)
    rcases e2 with e2 | e2
    · exact absurd e2 h0
    · exact Or.inr (by rw [hh _ s3]; exact e2)
theorem ab_cr_nows {ws ws' : va_W} {ee : va_E} {rr : ab_R} (hr : rr.1 = 0 ∨ rr.1 = 1 ∨ rr.1 = 4) : ab_cr ws' ee rr = ab_cr ws ee rr := by
  obtain ⟨t1, t2, t3, t4⟩ := rr
  rcases hr with hr | hr | hr
  · have hr' : t1 = 0 := hr
    subst hr'
    match ee with
    | .inr (ci, vs) => rfl
    | .inl (cA, n, .inl f) => rfl
    | .inl (cA, n, .inr f) => rfl
  · have hr' : t1 = 1 := hr
    subst hr'
    match ee with
    | .inr (ci, vs) => rfl
    | .inl (cA, n, .inl f) => rfl
    | .inl (cA, n, .inr f) => rfl
  · have hr' : t1 = 4 := hr
    subst hr'
    match ee with
    | .inr (ci, vs) => rfl
    | .inl (cA, n, .inl f) => rfl
    | .inl (cA, n, .inr f) => rfl
theorem ab_cr_arr {ws : va_W} {zz : ClassId × vp_A} {rr : ab_R} (hr : rr.1 ≠ 1 ∧ rr.1 ≠ 4) : ab_cr ws (.inl zz) rr = none := by
  obtain ⟨t1, t2, t3, t4⟩ := rr
  match t1, zz, hr with
  | 0, (cA, n, .inl f), _ => rfl
  | 0, (cA, n, .inr f), _ => rfl
  | 1, _, hr => exact absurd rfl hr.1
  | 2, (cA, n, .inl f), _ => rfl
  | 2, (cA, n, .inr f), _ => rfl
  | 3, (cA, n, .inl f), _ => rfl
  | 3, (cA, n, .inr f), _ => rfl
  | 4, _, hr => exact absurd rfl hr.2
  | t1 + 5, (cA, n, .inl f), _ => rfl
  | t1 + 5, (cA, n, .inr f), _ => rfl
section WR
variable {cls : Nat → List ab_Cl} {dA : Nat → ClassId} {xa : List Nat} {ks : List Nat} {ws : va_W} {rv : List Int} {sv : List (Nat × Nat)} {h : ab_H}
theorem ab_CL_arr {A : Nat → Prop} {dt dt' : List (Nat × ab_Key)} (hCL : ab_CL cls ks ws rv sv dt) (hok : ab_cok cls) (hT : ab_TW dA ks ws) (hD : va_D A ws) {kk ax κ N : Nat} {cA : ClassId} {c1 c2 : (Nat → Int32) ⊕ ((Nat → Int64) ⊕ ((Nat → UInt32) ⊕ ((Nat → UInt64) ⊕ (Nat → Option Nat))))}
    (hk : ws[kk]? = some (ax, .inl (cA, N, c1))) (hκ : ks[kk]? = some κ) (him : κ ≠ 17) (hsub : ∀ d ∈ dt, d ∈ dt') (hX : ∀ rr : ab_R, rr.1 = 1 ∨ (rr.1 = 4 ∧ κ = 37) → ¬ ab_open rv sv dt' kk (1, rr.2.1) → ab_cr ws (.inl (cA, N, c2)) rr = ab_cr ws (.inl (cA, N, c1)) rr) : ab_CL cls ks (ws.set kk (ax, .inl (cA, N, c2))) rv sv dt' := by
  intro k9 κ9 a9 e9 g1 g2 cc hc hp
  have hp' : ∀ p ∈ ab_fps cc, ¬ ab_open rv sv dt k9 p := fun p hm ho => hp p hm (by
    obtain ⟨d, hd, rest⟩ := ho
    exact ⟨d, hsub d hd, rest⟩)
  have hlt := (List.getElem?_eq_some_iff.mp hk).1
  have har : ∀ (vs : List Value) (aa : Nat), (vs[aa]? = some (.ref ax) ∧ ab_ar (ws.set kk (ax, .inl (cA, N, c2))) vs aa = some (ax, .inl (cA, N, c2)) ∧ ab_ar ws vs aa = some (ax, .inl (cA, N, c1))) ∨ ab_ar (ws.set kk (ax, .inl (cA, N, c2))) vs aa = ab_ar ws vs aa := by
    intro vs aa
    unfold ab_ar
    split
    · rename_i q9 hq9
      rcases ab_find_set (yy := (ax, .inl (cA, N, c2))) hk rfl q9 with h9 | ⟨h8, h9⟩
      · exact Or.inr h9
      · have h7 := List.find?_some h8
        have h6 : ax = q9 := by simpa using h7
        subst h6
        exact Or.inl ⟨hq9, h9, h8⟩
    · exact Or.inr rfl
  by_cases hkk : k9 = kk
  · subst hkk
    rw [List.getElem?_set_self hlt] at g2
    cases g2
    refine ab_hd_same2 (fun rr hr => ?_) (hCL k9 κ9 ax _ g1 hk cc hc hp')
    by_cases ht : rr.1 = 1
    · obtain ⟨t1, t2, t3, t4⟩ := rr
      have ht' : t1 = 1 := ht
      subst ht'
      rw [ab_cr_nows (ws := ws) (Or.inr (Or.inl rfl))]
      exact hX (1, t2, t3, t4) (Or.inl rfl) (hp _ (ab_fps_of hr List.mem_cons_self))
    · by_cases ht4 : rr.1 = 4
      · have h37 := (hok κ9 cc hc rr hr).2 ht4
        rw [hκ] at g1
        have e37 : κ = κ9 := Option.some.inj g1
        obtain ⟨t1, t2, t3, t4⟩ := rr
        have ht' : t1 = 4 := ht4
        subst ht'
        rw [ab_cr_nows (ws := ws) (Or.inr (Or.inr rfl))]
        exact hX (4, t2, t3, t4) (Or.inr ⟨rfl, e37.trans h37⟩) (hp _ (ab_fps_of hr List.mem_cons_self))
      · rw [ab_cr_arr ⟨ht, ht4⟩, ab_cr_arr ⟨ht, ht4⟩]
  · rw [List.getElem?_set_ne (fun z9 => hkk z9.symm)] at g2
    refine ab_hd_same2 (fun rr hr => ?_) (hCL k9 κ9 a9 e9 g1 g2 cc hc hp')
    obtain ⟨t1, t2, t3, t4⟩ := rr
    match t1, e9, g2, hr with
    | 0, _, _, hr => exact ab_cr_nows (Or.inl rfl)
    | 1, _, _, hr => exact ab_cr_nows (Or.inr (Or.inl rfl))
    | 4, _, _, hr => exact ab_cr_nows (Or.inr (Or.inr rfl))
    | 2, .inl z9, _, hr => rw [ab_cr_arr (show (2 : Nat) ≠ 1 ∧ (2 : Nat) ≠ 4 by decide), ab_cr_arr (show (2 : Nat) ≠ 1 ∧ (2 : Nat) ≠ 4 by decide)]
    | 2, .inr (ci, vs), g2, hr =>
      show (match ab_ar (ws.set kk (ax, .inl (cA, N, c2))) vs t2 with
        | some (_, .inl (_, n, _)) => some (n : Int)
        | _ => none) = (match ab_ar ws vs t2 with
        | some (_, .inl (_, n, _)) => some (n : Int)
        | _ => none)
      rcases har vs t2 with ⟨-, h8, h9⟩ | h9
      · rw [h8, h9]
      · rw [h9]
    | 3, .inl z9, _, hr => rw [ab_cr_arr (show (3 : Nat) ≠ 1 ∧ (3 : Nat) ≠ 4 by decide), ab_cr_arr (show (3 : Nat) ≠ 1 ∧ (3 : Nat) ≠ 4 by decide)]
    | 3, .inr (ci, vs), g2, hr =>
      show (match ab_ar (ws.set kk (ax, .inl (cA, N, c2))) vs t2, ab_fi vs t3 with
        | some (_, .inl (_, n, .inl f)), some x => if 0 ≤ x ∧ 4 * x + (t4 : Int) < (n : Int) then some (f (4 * x + t4).toNat).toInt else none
        | _, _ => none) = (match ab_ar ws vs t2, ab_fi vs t3 with
        | some (_, .inl (_, n, .inl f)), some x => if 0 ≤ x ∧ 4 * x + (t4 : Int) < (n : Int) then some (f (4 * x + t4).toNat).toInt else none
        | _, _ => none)
      rcases har vs t2 with ⟨h7, h8, h9⟩ | h9
      · exfalso
        obtain ⟨ci9, ts9, mm, o1, o2, o3⟩ := (hok κ9 cc hc _ hr).1 rfl
        obtain ⟨a8, e8, w1, w2⟩ := hT.2 k9 κ9 g1
        rw [g2] at w1
        cases w1
        obtain ⟨vs8, x1, x2, x3⟩ := w2.1 _ _ o1
        cases x1
        obtain ⟨v8, y1, y2⟩ := x3 _ _ o2
        have y1' : vs[t2]? = some v8 := y1
        rw [h7] at y1'
        cases y1'
        rcases y2 with ⟨k7, a7, z1, z2, z3⟩ | ⟨-, z3⟩
        · cases z3
          rw [List.getElem?_map] at z2
          cases hw7 : ws[k7]? with
          | none => rw [hw7] at z2; cases z2
          | some q7 =>
            rw [hw7] at z2
            have e7 : q7.1 = ax := Option.some.inj z2
            have hk7 : k7 = kk := hD.1 k7 kk q7 _ hw7 hk e7
            subst hk7
            rw [hκ] at z1
            exact him ((Option.some.inj z1).trans o3)
        · cases z3
      · rw [h9]
    | t1 + 5, .inl z9, _, hr => rw [ab_cr_arr (show t1 + 5 ≠ 1 ∧ t1 + 5 ≠ 4 by omega), ab_cr_arr (show t1 + 5 ≠ 1 ∧ t1 + 5 ≠ 4 by omega)]
    | t1 + 5, .inr (ci, vs), _, hr => rfl
theorem ab_TW_arr (hT : ab_TW dA ks ws) {kk ax κ : Nat} {e1 e2 : va_E} (hk : ws[kk]? = some (ax, e1)) (hκ : ks[kk]? = some κ) (hc : ab_cell dA ks (ws.map (·.1)) κ e2) : ab_TW dA ks (ws.set kk (ax, e2)) := by
  have hlt := (List.getElem?_eq_some_iff.mp hk).1
  have hmap := ab_map_set (yy := (ax, e2)) hk rfl
  refine ⟨by rw [List.length_set]; exact hT.1, fun k9 κ9 h9 => ?_⟩
  rw [hmap]
  obtain ⟨a9, e9, w1, w2⟩ := hT.2 k9 κ9 h9
  by_cases hkk : k9 = kk
  · subst hkk
    rw [hκ] at h9
    cases h9
    exact ⟨ax, e2, by rw [List.getElem?_set_self hlt], hc⟩
  · exact ⟨a9, e9, by rw [List.getElem?_set_ne (fun z9 => hkk z9.symm)]; exact w1, w2⟩
theorem ab_Kn_set {rk : List Nat} (hK : ab_Kn ks ws sv rk) {kk ax : Nat} {e1 e2 : va_E} (hk : ws[kk]? = some (ax, e1)) : ab_Kn ks (ws.set kk (ax, e2)) sv rk := by
  have hlt := (List.getElem?_eq_some_iff.mp hk).1
  refine ⟨hK.1, fun i9 κ9 h9 => ?_⟩
  obtain ⟨q8, e7, w1, w2, w3⟩ := hK.2 i9 κ9 h9
  by_cases hne : q8.1 = kk
  · refine ⟨q8, e2, w1, w2, ?_⟩
    rw [hne] at w3 ⊢
    rw [hk] at w3
    have e6 : ax = q8.2 := congrArg Prod.fst (Option.some.inj w3)
    rw [List.getElem?_set_self hlt, e6]
  · exact ⟨q8, e7, w1, w2, by rw [List.getElem?_set_ne (fun z9 => hne z9.symm)]; exact w3⟩
/-- a fact stays if its place reads the same -/
theorem ab_fact_set {kk ax : Nat} {e1 e2 : va_E} (hk : ws[kk]? = some (ax, e1)) {f9 : ab_F} (hf : ab_fact rv sv xa ws f9) (hs : ∀ ii, sv[f9.1]? = some (kk, ax) → ab_ki rv f9.2.1 = some ii → ab_rd e2 f9.2.1.1 ii = ab_rd e1 f9.2.1.1 ii) : ab_fact rv sv xa (ws.set kk (ax, e2)) f9 := by
  have hlt := (List.getElem?_eq_some_iff.mp hk).1
  obtain ⟨qf, ef, ii, vf, f1, f2, f3, f4, f5⟩ := hf
  by_cases hne : qf.1 = kk
  · have hqf : qf = (kk, ax) := by
      rw [hne, hk] at f2
      have e6 : ax = qf.2 := congrArg Prod.fst (Option.some.inj f2)
      exact Prod.ext hne e6.symm
    subst hqf
    rw [hk] at f2
    cases f2
    exact ⟨(kk, ax), e2, ii, vf, f1, by rw [List.getElem?_set_self hlt], f3, by rw [hs ii f1 f3]; exact f4, f5⟩
  · exact ⟨qf, ef, ii, vf, f1, by rw [List.getElem?_set_ne (fun z9 => hne z9.symm)]; exact f2, f3, f4, f5⟩
/-- the value is of the type of a constant place of the reference's row -/
def ab_w9 (h : ab_H) (f : ab_L) : ab_A → Bool
  | .inl w => decide (f.2.1 = 0) && (match ab_ke (nat_lit 37) f.2.2.toNat, ab_bd h.1 w with
    | .inl q, some z => decide (q.1 ≤ z.1) && decide (z.2 ≤ q.2)
    | _, _ => false)
  | _ => false
theorem ab_w9_snd {rv : List Int} {h : ab_H} (hI : ab_I rv h.1) {f : ab_L} {v : ab_A} {xx : Nat} {xv : Int32} (hw : ab_w9 h f v = true) (hx : ab_ev rv f = some (xx : Int)) (hxv : ∀ w, v = .inl w → ab_ev rv w = some xv.toInt) : ab_tv [] [] (.int xv) (ab_ke 37 xx) := by
  match v, hw, hxv with
  | .inl w, hw, hxv =>
    unfold ab_w9 at hw
    rw [Bool.and_eq_true, decide_eq_true_eq] at hw
    rw [ab_ev0 hw.1] at hx
    have e1 : f.2.2.toNat = xx := by
      have := Option.some.inj hx
      omega
    rw [e1] at hw
    have hw2 := hw.2
    split at hw2
    · rename_i q z hq hz
      rw [Bool.and_eq_true, decide_eq_true_eq, decide_eq_true_eq] at hw2
      have b9 := ab_bd_in hI hz (hxv w rfl)
      rw [show ab_ke 37 xx = .inl q from hq]
      exact ⟨xv, rfl, by omega, by omega⟩
    · cases hw2
/-- a counter is raised by one -/
def ab_k6 (h : ab_H) (f : ab_L) (i : Nat) : ab_A → Bool
  | .inl w => (match ab_ff h.2.2.2.1 i (nat_lit 1, f) with
    | some (.inl u) => Nat.beq u.1 w.1 && (decide (u.2.1 = w.2.1) && decide (u.2.2 + 1 = w.2.2))
    | _ => false)
  | _ => false
/-- a word of a whole row of the written kind, behind a write of v into place f -/
def ab_kq (h : ab_H) (f : ab_L) (v : ab_A) (g : ab_F) : Option ab_F :=
  bif Nat.beq g.2.1.1 (nat_lit 3) || Nat.beq g.2.1.1 (nat_lit 4) then (match ab_dl h f (g.2.1.2.1, 4 * g.2.1.2.2.1, 4 * g.2.1.2.2.2) with
    | some d => bif decide (0 ≤ d) then some g else none
    | none => none)
  else bif Nat.beq g.2.1.1 (nat_lit 5) then (ab_g (g.2.1.2.2.2 + 1) fun o => some (g.1, (nat_lit 5, g.2.1.2.1, g.2.1.2.2.1, o), g.2.2))
  else bif Nat.beq g.2.1.1 (nat_lit 7) then (match ab_dl h f g.2.1.2 with
    | some d => bif decide (0 ≤ d) then some g else none
    | none => none)
  else bif Nat.beq g.2.1.1 (nat_lit 6) then (match ab_bd h.1 f with
    | some q => bif decide (q.2 < 1580) && ab_cn.all (fun c => decide (q.2 < (c : Int)) || decide ((c : Int) < q.1)) then some g else bif decide (q.2 < 1580) && ab_k6 h f g.1 v then ab_g (g.2.1.2.2.2 + 1) (fun o => some (g.1, (nat_lit 6, g.2.1.2.1, g.2.1.2.2.1, o), g.2.2)) else none
    | none => none)
  else bif Nat.beq g.2.1.1 (nat_lit 9) then (bif ab_w9 h f v then some g else none)
  else bif Nat.beq g.2.1.1 (nat_lit 8) then (match ab_bd h.1 f with
    | some q => bif decide (q.2 < 1580) && (decide (g.2.1.2.2.1 = 0) && decide (1 ≤ g.2.1.2.2.2)) then some g else none
    | none => none)
  else none
/-- facts that a write of place f of kind κ leaves: other kinds, lengths, places that are apart, words of whole rows as they may -/
def ab_kx (h : ab_H) (κ : Nat) (f : ab_L) (v : ab_A) : List ab_F → List ab_F
  | [] => []
  | g :: fs => bif Nat.ble (nat_lit 3) g.2.1.1 then (bif (match ee_nth h.2.2.1 g.1 with
      | some κ' => Nat.beq κ' κ
      | none => true) then (match ab_kq h f v g with
        | some g' => g' :: ab_kx h κ f v fs
        | none => ab_kx h κ f v fs) else g :: ab_kx h κ f v fs)
    else bif Nat.beq g.2.1.1 (nat_lit 1) && ((match ee_nth h.2.2.1 g.1 with
      | some κ' => Nat.beq κ' κ
      | none => true) && !((match ab_dl h f g.2.1.2 with
        | some d => decide (1 ≤ d)
        | none => false) || (match ab_dl h g.2.1.2 f with
        | some d => decide (1 ≤ d)
        | none => false))) then ab_kx h κ f v fs else g :: ab_kx h κ f v fs
theorem ab_kx_in {κ : Nat} {f : ab_L} {v : ab_A} {fs : List ab_F} {g : ab_F} (hg : g ∈ ab_kx h κ f v fs) : (g ∈ fs ∧ g.2.1.1 < 3 ∧ (g.2.1.1 ≠ 1 ∨ (∃ κ', h.2.2.1[g.1]? = some κ' ∧ κ' ≠ κ) ∨ (∃ d, ab_dl h f g.2.1.2 = some d ∧ 1 ≤ d) ∨ ∃ d, ab_dl h g.2.1.2 f = some d ∧ 1 ≤ d)) ∨ (g ∈ fs ∧ 3 ≤ g.2.1.1 ∧ ∃ κ', h.2.2.1[g.1]? = some κ' ∧ κ' ≠ κ) ∨ ∃ g0 ∈ fs, 3 ≤ g0.2.1.1 ∧ ab_kq h f v g0 = some g := by
  induction fs with
  | nil => cases hg
  | cons g9 fs ih =>
    have ih' : g ∈ ab_kx h κ f v fs → (g ∈ g9 :: fs ∧ g.2.1.1 < 3 ∧ (g.2.1.1 ≠ 1 ∨ (∃ κ', h.2.2.1[g.1]? = some κ' ∧ κ' ≠ κ) ∨ (∃ d, ab_dl h f g.2.1.2 = some d ∧ 1 ≤ d) ∨ ∃ d, ab_dl h g.2.1.2 f = some d ∧ 1 ≤ d)) ∨ (g ∈ g9 :: fs ∧ 3 ≤ g.2.1.1 ∧ ∃ κ', h.2.2.1[g.1]? = some κ' ∧ κ' ≠ κ) ∨ ∃ g0 ∈ g9 :: fs, 3 ≤ g0.2.1.1 ∧ ab_kq h f v g0 = some g := by
      intro hg
      rcases ih hg with ⟨i1, i2, i3⟩ | ⟨i1, i2, i3⟩ | ⟨g0, i1, i2, i3⟩
      · exact Or.inl ⟨List.mem_cons_of_mem _ i1, i2, i3⟩
      · exact Or.inr (Or.inl ⟨List.mem_cons_of_mem _ i1, i2, i3⟩)
      · exact Or.inr (Or.inr ⟨g0, List.mem_cons_of_mem _ i1, i2, i3⟩)
    unfold ab_kx at hg
    cases h3 : Nat.ble (nat_lit 3) g9.2.1.1 with
    | true =>
      rw [ee_ct h3] at hg
      have h3' : 3 ≤ g9.2.1.1 := Nat.le_of_ble_eq_true h3
      cases hc : (match ee_nth h.2.2.1 g9.1 with
        | some κ' => Nat.beq κ' κ
        | none => true) with
      | true =>
        rw [ee_ct hc] at hg
        split at hg
        · rename_i g' hq
          rcases List.mem_cons.mp hg with rfl | hg
          · exact Or.inr (Or.inr ⟨g9, List.mem_cons_self, h3', hq⟩)
          · exact ih' hg
        · exact ih' hg
      | false =>
        rw [ee_cf hc] at hg
        rcases List.mem_cons.mp hg with rfl | hg
        · refine Or.inr (Or.inl ⟨List.mem_cons_self, h3', ?_⟩)
          split at hc
          · rename_i κ' hκ'
            rw [ee_nth_eq] at hκ'
            exact ⟨κ', hκ', fun z9 => by rw [z9, Nat.beq_refl] at hc; cases hc⟩
          · cases hc
        · exact ih' hg
    | false =>
      rw [ee_cf h3] at hg
      have h3' : g9.2.1.1 < 3 := by
        refine Nat.lt_of_not_le (fun z9 => ?_)
        have : Nat.ble 3 g9.2.1.1 = true := Nat.ble_eq_true_of_le z9
        rw [show Nat.ble (nat_lit 3) g9.2.1.1 = Nat.ble 3 g9.2.1.1 from rfl, this] at h3
        cases h3
      cases hc : (Nat.beq g9.2.1.1 (nat_lit 1) && ((match ee_nth h.2.2.1 g9.1 with
        | some κ' => Nat.beq κ' κ
        | none => true) && !((match ab_dl h f g9.2.1.2 with
          | some d => decide (1 ≤ d)
          | none => false) || (match ab_dl h g9.2.1.2 f with
          | some d => decide (1 ≤ d)
          | none => false)))) with
      | true => rw [ee_ct hc] at hg; exact ih' hg
      | false =>
        rw [ee_cf hc] at hg
        rcases List.mem_cons.mp hg with rfl | hg
        · refine Or.inl ⟨List.mem_cons_self, h3', ?_⟩
          rw [Bool.and_eq_false_iff, Bool.and_eq_false_iff] at hc
          rcases hc with hc | hc | hc
          · refine Or.inl (fun z9 => ?_)
            rw [z9] at hc
            cases hc
          · split at hc
            · rename_i κ' hκ'
              rw [ee_nth_eq] at hκ'
              exact Or.inr (Or.inl ⟨κ', hκ', fun z9 => by rw [z9, Nat.beq_refl] at hc; cases hc⟩)
            · cases hc
          · rw [Bool.not_eq_false', Bool.or_eq_true] at hc
            rcases hc with hc | hc
            · split at hc
              · rename_i d hd
                exact Or.inr (Or.inr (Or.inl ⟨d, hd, by simpa using hc⟩))
              · cases hc
            · split at hc
              · rename_i d hd
                exact Or.inr (Or.inr (Or.inr ⟨d, hd, by simpa using hc⟩))
              · cases hc
        · exact ih' hg
/-- such a fact's place, if it is in the row that is written, isn't the one written -/
theorem ab_kx_ne (hG : ab_G cls dA xa ks ws rv sv h) {κ kk ax : Nat} {f : ab_L} {g : ab_F} (hor : g.2.1.1 ≠ 1 ∨ (∃ κ', h.2.2.1[g.1]? = some κ' ∧ κ' ≠ κ) ∨ (∃ d, ab_dl h f g.2.1.2 = some d ∧ 1 ≤ d) ∨ ∃ d, ab_dl h g.2.1.2 f = some d ∧ 1 ≤ d) (hκ : ks[kk]? = some κ) (hq : sv[g.1]? = some (kk, ax)) {xx ii : Int} (hx : ab_ev rv f = some xx) (hi : ab_ki rv g.2.1 = some ii) (h1 : g.2.1.1 = 1) : ii ≠ xx := by
  obtain ⟨i8, ⟨t8, l8⟩, a8⟩ := g
  dsimp only at *
  subst h1
  have hi' : ab_ev rv l8 = some ii := hi
  rcases hor with h9 | ⟨κ', h8, h9⟩ | ⟨d, h8, h9⟩ | ⟨d, h8, h9⟩
  · exact absurd rfl h9
  · exfalso
    obtain ⟨q7, e7, w1, w2, w3⟩ := hG.2.2.1.2 _ κ' h8
    rw [hq] at w1
    cases w1
    rw [hκ] at w2
    exact h9 (Option.some.inj w2).symm
  · have d9 := ab_dl_in hG.1 hG.2.1 hx hi' h8
    omega
  · have d9 := ab_dl_in hG.1 hG.2.1 hi' hx h8
    omega
/-- how a word of a whole row may go on behind a write of place xx -/
def ab_qk (P9 : Int32 → Prop) (t : Nat) (ii ii' : Int) (xx : Nat) (xv : Int32) : Prop := ((t = 3 ∨ t = 4) ∧ ii' = ii ∧ 4 * ii ≤ (xx : Int)) ∨ (t = 5 ∧ ii' = ii + 1) ∨ (t = 7 ∧ ii' = ii ∧ ii ≤ (xx : Int)) ∨ (t = 6 ∧ xx < 1580 ∧ ((ii' = ii ∧ ∀ c ∈ ab_cn, xx ≠ c) ∨ (ii' = ii + 1 ∧ ∃ xo, P9 xo ∧ xv.toInt = xo.toInt + 1))) ∨ (t = 8 ∧ ii' = ii ∧ xx < 1580 ∧ 1 ≤ ii) ∨ (t = 9 ∧ ii' = ii ∧ ab_tv [] [] (.int xv) (ab_ke 37 xx))
theorem ab_ev_mul4 {f : ab_L} {x : Int} (hx : ab_ev rv f = some x) : ab_ev rv (f.1, 4 * f.2.1, 4 * f.2.2) = some (4 * x) := by
  unfold ab_ev at hx ⊢
  by_cases h0 : f.2.1 = 0
  · rw [if_pos h0] at hx
    rw [if_pos (by show 4 * f.2.1 = 0; omega)]
    rw [← Option.some.inj hx]
  · rw [if_neg h0] at hx
    rw [if_neg (by show ¬ 4 * f.2.1 = 0; omega)]
    cases hz : rv[f.1]? with
    | none => rw [hz] at hx; cases hx
    | some z =>
      rw [hz] at hx
      have e1 : f.2.1 * z + f.2.2 = x := Option.some.inj hx
      show some (4 * f.2.1 * z + 4 * f.2.2) = _
      rw [← e1, Int.mul_add, Int.mul_assoc]
theorem ab_ev_add1 {f : ab_L} {x : Int} (hx : ab_ev rv f = some x) : ab_ev rv (f.1, f.2.1, f.2.2 + 1) = some (x + 1) := by
  unfold ab_ev at hx ⊢
  by_cases h0 : f.2.1 = 0
  · rw [if_pos h0] at hx
    rw [if_pos h0]
    rw [← Option.some.inj hx]
  · rw [if_neg h0] at hx
    rw [if_neg h0]
    cases hz : rv[f.1]? with
    | none => rw [hz] at hx; cases hx
    | some z =>
      rw [hz] at hx
      have e1 : f.2.1 * z + f.2.2 = x := Option.some.inj hx
      show some (f.2.1 * z + (f.2.2 + 1)) = _
      rw [← e1, Int.add_assoc]
theorem ab_kq_snd (hI : ab_I rv h.1) (hR : ab_Rl rv h.2.1) {f : ab_L} {v : ab_A} {g g' : ab_F} {xx : Nat} {xv : Int32} {ii : Int} {P9 : Int32 → Prop} (hP9 : ∀ u, ab_ff h.2.2.2.1 g.1 (1, f) = some (.inl u) → ∃ xo : Int32, P9 xo ∧ ab_ev rv u = some xo.toInt) (hq : ab_kq h f v g = some g') (hx : ab_ev rv f = some (xx : Int)) (hxv : ∀ w, v = .inl w → ab_ev rv w = some xv.toInt) (hi : ab_ki rv g.2.1 = some ii) : g'.1 = g.1 ∧ g'.2.1.1 = g.2.1.1 ∧ g'.2.2 = g.2.2 ∧ ∃ ii', ab_ki rv g'.2.1 = some ii' ∧ ab_qk P9 g.2.1.1 ii ii' xx xv := by
  obtain ⟨gi, ⟨t, key⟩, ga⟩ := g
  unfold ab_kq at hq
  dsimp only at hq hi ⊢
  cases c34 : (Nat.beq t (nat_lit 3) || Nat.beq t (nat_lit 4)) with
  | true =>
    rw [ee_ct c34] at hq
    have ht : t = 3 ∨ t = 4 := by
      rw [Bool.or_eq_true] at c34
      rcases c34 with c | c
      · exact Or.inl (Nat.eq_of_beq_eq_true c)
      · exact Or.inr (Nat.eq_of_beq_eq_true c)
    split at hq
    · rename_i d hd
      cases c0 : decide (0 ≤ d) with
      | false => rw [ee_cf c0] at hq; cases hq
      | true =>
        rw [ee_ct c0] at hq
        cases hq
        have hi' : ab_ev rv key = some ii := by
          rcases ht with rfl | rfl <;> exact hi
        have d9 := ab_dl_in hI hR hx (ab_ev_mul4 hi') hd
        rw [decide_eq_true_eq] at c0
        exact ⟨rfl, rfl, rfl, ii, hi, Or.inl ⟨ht, rfl, by omega⟩⟩
    · cases hq
  | false =>
  rw [ee_cf c34] at hq
  cases c5 : Nat.beq t (nat_lit 5) with
  | true =>
    rw [ee_ct c5, ab_g_eq] at hq
    cases hq
    have ht : t = 5 := Nat.eq_of_beq_eq_true c5
    subst ht
    exact ⟨rfl, rfl, rfl, ii + 1, ab_ev_add1 (show ab_ev rv key = some ii from hi), Or.inr (Or.inl ⟨rfl, rfl⟩)⟩
  | false =>
  rw [ee_cf c5] at hq
  cases c7 : Nat.beq t (nat_lit 7) with
  | true =>
    rw [ee_ct c7] at hq
    have ht : t = 7 := Nat.eq_of_beq_eq_true c7
    subst ht
    split at hq
    · rename_i d hd
      cases c0 : decide (0 ≤ d) with
      | false => rw [ee_cf c0] at hq; cases hq
      | true =>
        rw [ee_ct c0] at hq
        cases hq
        have d9 := ab_dl_in hI hR hx (show ab_ev rv key = some ii from hi) hd
        rw [decide_eq_true_eq] at c0
        exact ⟨rfl, rfl, rfl, ii, hi, Or.inr (Or.inr (Or.inl ⟨rfl, rfl, by omega⟩))⟩
    · cases hq
  | false =>
  rw [ee_cf c7] at hq
  cases c6 : Nat.beq t (nat_lit 6) with
  | true =>
    rw [ee_ct c6] at hq
    have ht : t = 6 := Nat.eq_of_beq_eq_true c6
    subst ht
    split at hq
    · rename_i q hb
      cases c0 : (decide (q.2 < 1580) && ab_cn.all (fun c => decide (q.2 < (c : Int)) || decide ((c : Int) < q.1))) with
      | true =>
        rw [ee_ct c0] at hq
        cases hq
        rw [Bool.and_eq_true, decide_eq_true_eq] at c0
        have b9 := ab_bd_in hI hb hx
        refine ⟨rfl, rfl, rfl, ii, hi, Or.inr (Or.inr (Or.inr (Or.inl ⟨rfl, by omega, Or.inl ⟨rfl, fun c hc => ?_⟩⟩)))⟩
        have h9 := List.all_eq_true.mp c0.2 c hc
        rw [Bool.or_eq_true, decide_eq_true_eq, decide_eq_true_eq] at h9
        omega
      | false =>
        rw [ee_cf c0] at hq
        cases c1 : (decide (q.2 < 1580) && ab_k6 h f gi v) with
        | false => rw [ee_cf c1] at hq; cases hq
        | true =>
          rw [ee_ct c1, ab_g_eq] at hq
          cases hq
          rw [Bool.and_eq_true, decide_eq_true_eq] at c1
          have b9 := ab_bd_in hI hb hx
          have hi' : (match rv[0]?, ab_ev rv key with
            | some n, some x => some (n + x)
            | _, _ => none) = some ii := hi
          refine ⟨rfl, rfl, rfl, ii + 1, ?_, Or.inr (Or.inr (Or.inr (Or.inl ⟨rfl, by omega, Or.inr ⟨rfl, ?_⟩⟩)))⟩
          · show (match rv[0]?, ab_ev rv (key.1, key.2.1, key.2.2 + 1) with
              | some n, some x => some (n + x)
              | _, _ => none) = some (ii + 1)
            cases hz : rv[0]? with
            | none => rw [hz] at hi'; cases hi'
            | some z0 =>
              rw [hz] at hi'
              cases hk : ab_ev rv key with
              | none => rw [hk] at hi'; cases hi'
              | some xk =>
                rw [hk] at hi'
                have e9 : z0 + xk = ii := Option.some.inj hi'
                rw [ab_ev_add1 hk]
                show some (z0 + (xk + 1)) = some (ii + 1)
                congr 1
                omega
          · have c2 := c1.2
            match v, hxv, c2 with
            | .inl w, hxv, c2 =>
              unfold ab_k6 at c2
              dsimp only at c2
              split at c2
              · rename_i u hu
                rw [Bool.and_eq_true, Bool.and_eq_true, decide_eq_true_eq, decide_eq_true_eq] at c2
                obtain ⟨d1, d2, d3⟩ := c2
                have d1' : u.1 = w.1 := Nat.eq_of_beq_eq_true d1
                obtain ⟨xo, x1, x2⟩ := hP9 u hu
                refine ⟨xo, x1, ?_⟩
                have h8 := ab_ev_add1 x2
                have e8 : (u.1, u.2.1, u.2.2 + 1) = w := by
                  rw [d1', d2, d3]
                rw [e8, hxv w rfl] at h8
                exact Option.some.inj h8
              · cases c2
    · cases hq
  | false =>
  rw [ee_cf c6] at hq
  cases c9 : Nat.beq t (nat_lit 9) with
  | true =>
    rw [ee_ct c9] at hq
    have ht : t = 9 := Nat.eq_of_beq_eq_true c9
    subst ht
    cases cw : ab_w9 h f v with
    | false => rw [ee_cf cw] at hq; cases hq
    | true =>
      rw [ee_ct cw] at hq
      cases hq
      exact ⟨rfl, rfl, rfl, ii, hi, Or.inr (Or.inr (Or.inr (Or.inr (Or.inr ⟨rfl, rfl, ab_w9_snd hI cw hx hxv⟩))))⟩
  | false =>
  rw [ee_cf c9] at hq
  cases c8 : Nat.beq t (nat_lit 8) with
  | true =>
    rw [ee_ct c8] at hq
    have ht : t = 8 := Nat.eq_of_beq_eq_true c8
    subst ht
    split at hq
    · rename_i q hb
      cases c0 : (decide (q.2 < 1580) && (decide (key.2.1 = 0) && decide (1 ≤ key.2.2))) with
      | false => rw [ee_cf c0] at hq; cases hq
      | true =>
        rw [ee_ct c0] at hq
        cases hq
        rw [Bool.and_eq_true, Bool.and_eq_true, decide_eq_true_eq, decide_eq_true_eq, decide_eq_true_eq] at c0
        have b9 := ab_bd_in hI hb hx
        have hi' : ab_ev rv key = some ii := hi
        rw [ab_ev0 c0.2.1] at hi'
        have e9 := Option.some.inj hi'
        exact ⟨rfl, rfl, rfl, ii, hi, Or.inr (Or.inr (Or.inr (Or.inr (Or.inl ⟨rfl, rfl, by omega, by omega⟩))))⟩
    · cases hq
  | false =>
  rw [ee_cf c8] at hq
  cases hq
end WR
theorem ab_nz_upd (f : Nat → Int32) (xx : Nat) (v : Int32) : ∀ n : Nat, ((List.range n).filter (fun j => upd f xx v j != 0)).length ≤ ((List.range n).filter (fun j => f j != 0)).length + (if xx < n then 1 else 0)
  | 0 => by simp
  | n + 1 => by
    have ih := ab_nz_upd f xx v n
    rw [List.range_succ, List.filter_append, List.filter_append, List.length_append, List.length_append]
    by_cases hn : n = xx
    · subst hn
      rw [if_neg (Nat.lt_irrefl n)] at ih
      rw [if_pos (Nat.lt_succ_self n)]
      have h1 : (List.filter (fun j => upd f n v j != 0) [n]).length ≤ 1 := List.length_filter_le _ _
      omega
    · have e1 : List.filter (fun j => upd f xx v j != 0) [n] = List.filter (fun j => f j != 0) [n] := by
        have e2 : upd f xx v n = f n := if_neg hn
        simp [List.filter, e2]
      rw [e1]
      by_cases h2 : xx < n
      · rw [if_pos h2] at ih
        rw [if_pos (by omega)]
        omega
      · rw [if_neg h2] at ih
        rw [if_neg (by omega)]
        omega
theorem ab_Pq_upd {cA : ClassId} {n : Nat} {f : Nat → Int32} {t xx : Nat} {v : Int32} {ii ii' : Int} {P9 : Int32 → Prop} (hP9 : ∀ xo, P9 xo → f xx = xo) (h : ab_Pq t (.inl (cA, n, .inl f)) ii) (hk : ab_qk P9 t ii ii' xx v) : ab_Pq t (.inl (cA, n, .inl (upd f xx v))) ii' := by
  obtain ⟨cA9, n9, f9, e9, h9⟩ := h
  cases e9
  have hne : ∀ j, j ≠ xx → upd f xx v j = f j := fun j hj => if_neg hj
  refine ⟨cA, n, upd f xx v, rfl, ?_⟩
  rcases hk with ⟨ht, rfl, h1⟩ | ⟨rfl, rfl⟩ | ⟨rfl, rfl, h1⟩ | ⟨rfl, h1, h2⟩ | ⟨rfl, rfl, h1, h2⟩ | ⟨rfl, rfl, h1⟩
  · rcases ht with rfl | rfl
    · intro l hl
      obtain ⟨g1, g2⟩ := h9 l hl
      refine ⟨g1, ?_⟩
      unfold ab_row6 at g2 ⊢
      rw [hne (4 * l) (by omega), hne (4 * l + 1) (by omega), hne (4 * l + 2) (by omega), hne (4 * l + 3) (by omega)]
      exact g2
    · intro l hl
      obtain ⟨g1, g2⟩ := h9 l hl
      refine ⟨g1, ?_⟩
      unfold ab_row7 at g2 ⊢
      rw [hne (0 + 4 * l) (by omega), hne (0 + 4 * l + 1) (by omega), hne (0 + 4 * l + 2) (by omega), hne (0 + 4 * l + 3) (by omega)]
      exact g2
  · have h8 : (((List.range n).filter (fun j => f j != 0)).length : Int) ≤ ii := h9
    have h7 := ab_nz_upd f xx v n
    show (((List.range n).filter (fun j => upd f xx v j != 0)).length : Int) ≤ ii + 1
    have h6 : (if xx < n then 1 else 0) ≤ 1 := by split <;> omega
    omega
  · intro l hl
    obtain ⟨g1, g2⟩ := h9 l hl
    exact ⟨g1, by rw [hne l (by omega)]; exact g2⟩
  · refine ⟨h9.1, fun b hb c hc => ?_⟩
    have h8 := h9.2 b hb c hc
    have hcx : c < 1580 := by
      simp only [ab_cn, List.mem_cons, List.not_mem_nil, or_false] at hc
      omega
    rcases h2 with ⟨rfl, h2⟩ | ⟨rfl, xo, x1, x2⟩
    · rw [hne (1580 * b + c) (by
        intro z9
        cases b with
        | zero => exact h2 c hc (by omega)
        | succ b => omega)]
      exact h8
    · by_cases hxx : 1580 * b + c = xx
      · rw [show upd f xx v (1580 * b + c) = v from if_pos hxx]
        rw [hxx, hP9 xo x1] at h8
        omega
      · rw [hne _ hxx]
        omega
  · refine ⟨h9.1, ?_⟩
    have e8 : (fun j => upd f xx v (1580 * ii'.toNat + j)) = fun j => f (1580 * ii'.toNat + j) := by
      funext j
      exact hne _ (by omega)
    rw [e8]
    exact h9.2
  · refine ⟨h9.1, fun j hj => ?_⟩
    by_cases hjx : j = xx
    · subst hjx
      rw [show upd f j v j = v from if_pos rfl]
      exact h1
    · rw [hne j hjx]
      exact h9.2 j hj
