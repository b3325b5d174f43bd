/-! ===== a fresh cell becomes one of a kind ===== -/
theorem ab_k64 {κ : Nat} (h : 67 ≤ κ) : ab_ko κ = none ∧ ∀ i, ab_ke κ i = .inr (.inr 0) := by
  have hb : ∀ c : Nat, c ≤ 67 → Nat.blt κ c = false := by
    intro c hc
    cases hz : Nat.blt κ c with
    | false => rfl
    | true =>
      have h9 : κ < c := Nat.le_of_ble_eq_true hz
      omega
  have he : ∀ c : Nat, c < 67 → Nat.beq κ c = false := fun c hc => ee_bn (by omega)
  refine ⟨?_, fun i => ?_⟩
  · unfold ab_ko
    rw [ee_cf (show Nat.blt κ (nat_lit 46) = false from hb 46 (by decide)), ee_cf (show Nat.blt κ (nat_lit 53) = false from hb 53 (by decide)), ee_cf (show Nat.blt κ (nat_lit 56) = false from hb 56 (by decide)), ee_cf (show Nat.blt κ (nat_lit 65) = false from hb 65 (by decide)), ee_cf (show Nat.blt κ (nat_lit 66) = false from hb 66 (by decide)), ee_cf (show Nat.beq κ (nat_lit 66) = false from he 66 (by decide))]
  · unfold ab_ke
    rw [ee_cf (show Nat.blt κ (nat_lit 30) = false from hb 30 (by decide)), ee_cf (show Nat.blt κ (nat_lit 42) = false from hb 42 (by decide)), ee_cf (show Nat.blt κ (nat_lit 59) = false from hb 59 (by decide)), ee_cf (show Nat.blt κ (nat_lit 61) = false from hb 61 (by decide)), ee_cf (show Nat.blt κ (nat_lit 62) = false from hb 62 (by decide)), ee_cf (show Nat.blt κ (nat_lit 63) = false from hb 63 (by decide)), ee_cf (show Nat.beq κ (nat_lit 63) = false from he 63 (by decide))]
/-- no type names a fresh kind -/
def ab_t45 (t : ab_T) : Bool := match t with
  | .inr (.inl n) => Nat.blt (Nat.div n (nat_lit 2)) (nat_lit 45)
  | _ => true
theorem ab_ko45a : ((List.range 67).all fun k => match ab_ko k with
  | some q => q.2.all ab_t45
  | none => true) = true := by decide +kernel
theorem ab_ko45 {κ ci : Nat} {ts : List ab_T} (h : ab_ko κ = some (ci, ts)) {j : Nat} {t : ab_T} (ht : ts[j]? = some t) : ab_t45 t = true := by
  by_cases hk : κ < 67
  · have h1 := List.all_eq_true.mp ab_ko45a κ (List.mem_range.mpr hk)
    rw [h] at h1
    exact List.all_eq_true.mp h1 t (List.mem_of_getElem? ht)
  · rw [(ab_k64 (by omega)).1] at h
    cases h
theorem ab_ke45a : ((List.range 67).all fun k => ab_t45 (ab_ke k 0)) = true := by decide +kernel
theorem ab_ke45b : ((List.range 1580).all fun i => ab_t45 (ab_all i)) = true := by decide +kernel
theorem ab_ke45 (κ i : Nat) : ab_t45 (ab_ke κ i) = true := by
  by_cases h37 : κ = 37
  · subst h37
    show ab_t45 (ab_all i) = true
    by_cases hi : i < 1580
    · exact List.all_eq_true.mp ab_ke45b i (List.mem_range.mpr hi)
    · unfold ab_all
      have hb : Nat.blt i (nat_lit 1580) = false := by
        cases hz : Nat.blt i (nat_lit 1580) with
        | false => rfl
        | true =>
          have h9 : i < 1580 := Nat.le_of_ble_eq_true hz
          omega
      rw [ee_cf hb]
      rfl
  · by_cases hk : κ < 67
    · rw [ab_ke_u (ee_bn h37)]
      exact List.all_eq_true.mp ab_ke45a κ (List.mem_range.mpr hk)
    · rw [(ab_k64 (by omega)).2]
      rfl
theorem ab_tv_set {ks ad : List Nat} {k κf κ : Nat} (hk : ks[k]? = some κf) (h45 : 45 ≤ κf) {v : Value} {t : ab_T} (ht : ab_t45 t = true) (h : ab_tv ks ad v t) : ab_tv (ks.set k κ) ad v t := by
  match t, ht, h with
  | .inl q, _, h => exact h
  | .inr (.inl n), ht, .inl ⟨k9, a9, e1, e2, e3⟩ =>
    have h9 : n / 2 < 45 := Nat.le_of_ble_eq_true (show Nat.ble (Nat.succ (n / 2)) 45 = true from ht)
    refine Or.inl ⟨k9, a9, ?_, e2, e3⟩
    have hne : k ≠ k9 := by
      rintro rfl
      rw [hk] at e1
      have e9 := Option.some.inj e1
      omega
    rw [List.getElem?_set_ne hne]
    exact e1
  | .inr (.inl n), _, .inr h => exact Or.inr h
  | .inr (.inr _), _, h => exact h
theorem ab_cell_set {dA : Nat → ClassId} {ks ad : List Nat} {k κf κ κ9 : Nat} (hk : ks[k]? = some κf) (h45 : 45 ≤ κf) {ee : va_E} (h : ab_cell dA ks ad κ9 ee) : ab_cell dA (ks.set k κ) ad κ9 ee := by
  refine ⟨fun ci ts hko => ?_, fun t lo hi hka => ?_, h.2.2⟩
  · obtain ⟨vs, e1, e2, e3⟩ := h.1 ci ts hko
    refine ⟨vs, e1, e2, fun j t ht => ?_⟩
    obtain ⟨v, v1, v2⟩ := e3 j t ht
    exact ⟨v, v1, ab_tv_set hk h45 (ab_ko45 hko ht) v2⟩
  · rcases h.2.1 t lo hi hka with ⟨a1, n, f, a2, a3, a4, a5⟩ | h9 | ⟨a0, a1, n, g, a2, a3, a4, a5⟩
    · exact Or.inl ⟨a1, n, f, a2, a3, a4, fun i hi => ab_tv_set hk h45 (ab_ke45 κ9 i) (a5 i hi)⟩
    · exact Or.inr (Or.inl h9)
    · exact Or.inr (Or.inr ⟨a0, a1, n, g, a2, a3, a4, fun i hi => ab_tv_set hk h45 (ab_ke45 κ9 i) (a5 i hi)⟩)
def ab_lset : List Nat → Nat → Nat → List Nat
  | [], _, _ => []
  | _ :: l, 0, x => x :: l
  | a :: l, n + 1, x => a :: ab_lset l n x
theorem ab_lset_eq : ∀ (l : List Nat) (n x : Nat), ab_lset l n x = l.set n x
  | [], _, _ => rfl
  | _ :: _, 0, _ => rfl
  | a :: l, n + 1, x => by
    show a :: ab_lset l n x = _
    rw [ab_lset_eq l n x]
    rfl
def ab_unq (κf i : Nat) : List Nat → Nat → Bool
  | [], _ => true
  | κ :: l, j => (!Nat.beq κ κf || Nat.beq j i) && ab_unq κf i l (Nat.succ j)
theorem ab_unq_in {κf i : Nat} : ∀ {l : List Nat} {j0 : Nat}, ab_unq κf i l j0 = true → ∀ j : Nat, l[j]? = some κf → j0 + j = i
  | [], _, _, j, hj => by simp at hj
  | κ :: l, j0, h, j, hj => by
    unfold ab_unq at h
    rw [Bool.and_eq_true, Bool.or_eq_true] at h
    cases j with
    | zero =>
      have e9 : κ = κf := by simpa using hj
      subst e9
      rcases h.1 with h1 | h1
      · rw [Nat.beq_refl] at h1
        cases h1
      · exact Nat.eq_of_beq_eq_true h1
    | succ j =>
      have h9 := ab_unq_in h.2 j (by simpa using hj)
      omega
section PB
variable {cls : Nat → List ab_Cl} {dA : Nat → ClassId} {xa : List Nat} {ks : List Nat} {ws : va_W} {rv : List Int} {sv : List (Nat × Nat)} {h : ab_H}
theorem ab_G_pub (hG : ab_G cls dA xa ks ws rv sv h) {i κf κ : Nat} {q : Nat × Nat} {ee : va_E} (hi : h.2.2.1[i]? = some κf) (h45 : 45 ≤ κf) (hu : ∀ j : Nat, h.2.2.1[j]? = some κf → j = i) (hq : sv[i]? = some q) (hk : ks[q.1]? = some κf) (hw : ws[q.1]? = some (q.2, ee))
    (hcell : ab_cell dA (ks.set q.1 κ) (ws.map (·.1)) κ ee) (hcl : ∀ cc ∈ cls κ, ab_hd ws ee cc) : ab_G cls dA xa (ks.set q.1 κ) ws rv sv (h.1, h.2.1, h.2.2.1.set i κ, h.2.2.2.1, h.2.2.2.2.filter (fun d => !Nat.beq d.1 i)) := by
  have hlt : q.1 < ks.length := (List.getElem?_eq_some_iff.mp hk).1
  refine ⟨hG.1, hG.2.1, ⟨by rw [List.length_set]; exact hG.2.2.1.1, fun j κ9 h9 => ?_⟩, hG.2.2.2.1, ⟨by rw [List.length_set]; exact hG.2.2.2.2.1.1, fun k9 κ9 h9 => ?_⟩, fun k9 κ9 a9 e9 g1 g2 cc hc hp => ?_⟩
  · by_cases hj : i = j
    · subst hj
      have hil : i < h.2.2.1.length := (List.getElem?_eq_some_iff.mp hi).1
      rw [List.getElem?_set_self hil] at h9
      cases h9
      exact ⟨q, ee, hq, List.getElem?_set_self hlt, hw⟩
    · rw [List.getElem?_set_ne hj] at h9
      obtain ⟨q8, e8, w1, w2, w3⟩ := hG.2.2.1.2 j κ9 h9
      refine ⟨q8, e8, w1, ?_, w3⟩
      have hne : q.1 ≠ q8.1 := by
        intro z9
        rw [← z9, hk] at w2
        have e9 := Option.some.inj w2
        subst e9
        exact hj (hu j h9).symm
      rw [List.getElem?_set_ne hne]
      exact w2
  · by_cases hk9 : q.1 = k9
    · subst hk9
      rw [List.getElem?_set_self hlt] at h9
      cases h9
      exact ⟨q.2, ee, hw, hcell⟩
    · rw [List.getElem?_set_ne hk9] at h9
      obtain ⟨a8, e8, w1, w2⟩ := hG.2.2.2.2.1.2 k9 κ9 h9
      exact ⟨a8, e8, w1, ab_cell_set hk h45 w2⟩
  · by_cases hk9 : q.1 = k9
    · subst hk9
      rw [List.getElem?_set_self hlt] at g1
      cases g1
      rw [hw] at g2
      cases g2
      exact hcl cc hc
    · rw [List.getElem?_set_ne hk9] at g1
      refine hG.2.2.2.2.2 k9 κ9 a9 e9 g1 g2 cc hc (fun pp hpp ho => ?_)
      obtain ⟨d, hd, q8, q1, q2, q3, q4⟩ := ho
      refine hp pp hpp ⟨d, List.mem_filter.mpr ⟨hd, ?_⟩, q8, q1, q2, q3, q4⟩
      cases hb : Nat.beq d.1 i with
      | false => rfl
      | true =>
        exfalso
        have e9 : d.1 = i := Nat.eq_of_beq_eq_true hb
        rw [e9, hq] at q1
        cases q1
        exact hk9 q2
theorem ab_ph_pub {ke : Option Nat} {k κf κ : Nat} (hk : ks[k]? = some κf) (h1 : κf ≠ 29) (h2 : κ ≠ 29) : ab_ph ke (ks.set k κ) ws = ab_ph ke ks ws := by
  cases ke with
  | none => rfl
  | some k0 =>
    unfold ab_ph
    dsimp only
    by_cases hkk : k = k0
    · subst hkk
      have hlt : k < ks.length := (List.getElem?_eq_some_iff.mp hk).1
      rw [if_neg (by rw [List.getElem?_set_self hlt]; intro z9; exact h2 (Option.some.inj z9)), if_neg (by rw [hk]; intro z9; exact h1 (Option.some.inj z9))]
    · rw [List.getElem?_set_ne hkk]
theorem ab_px_pub {b : ab_B} (hp : ab_px b ks ws sv) {k κf κ : Nat} (hk : ks[k]? = some κf) (h45 : 45 ≤ κf) (h64 : κf < 64) (hκ : κ < 45 ∨ 64 ≤ κ) (h29 : κ ≠ 29) (hm : b.2.2.1 κf = true) (hX : b.2.2.2.2.1.testBit κf = false) : ab_px b (ks.set k κ) ws sv := by
  have hlt : k < ks.length := (List.getElem?_eq_some_iff.mp hk).1
  refine ⟨hp.1, ⟨fun k9 κ9 h9 => ?_, hp.2.1.2.1, fun k9 h9 => ?_⟩, by rw [ab_ph_pub hk (by omega) h29]; exact hp.2.2⟩
  · rcases hp.2.1.1 k9 κ9 h9 with h1 | ⟨h1, h2, h3, κ', h4, h5⟩
    · by_cases hkk : k = k9
      · subst hkk
        rw [hk] at h1
        have e9 := Option.some.inj h1
        subst e9
        exact Or.inr ⟨hm, ⟨h45, h64⟩, hX, κ, List.getElem?_set_self hlt, hκ⟩
      · exact Or.inl (by rw [List.getElem?_set_ne hkk]; exact h1)
    · by_cases hkk : k = k9
      · subst hkk
        exact Or.inr ⟨h1, h2, h3, κ, List.getElem?_set_self hlt, hκ⟩
      · exact Or.inr ⟨h1, h2, h3, κ', by rw [List.getElem?_set_ne hkk]; exact h4, h5⟩
  · by_cases hkk : k = k9
    · subst hkk
      rw [List.getElem?_set_self hlt] at h9
      exact absurd (Option.some.inj h9) h29
    · rw [List.getElem?_set_ne hkk] at h9
      exact hp.2.1.2.2 k9 h9
end PB
/-- every field is told, and of its type -/
def ab_pfs (h : ab_H) (i : Nat) : List ab_T → Nat → Bool
  | [], _ => true
  | t :: ts, j => (match ab_ff h.2.2.2.1 i (nat_lit 0, j, 0, 0) with
    | some a => ab_fits h t a
    | none => false) && ab_pfs h i ts (Nat.succ j)
def ab_pes (h : ab_H) (i : Nat) (t : ab_T) : Nat → Nat → Bool
  | 0, _ => true
  | n + 1, j => (match ab_ff h.2.2.2.1 i (nat_lit 1, nat_lit 0, 0, (j : Int)) with
    | some a => ab_fits h t a
    | none => false) && ab_pes h i t n (Nat.succ j)
def ab_pty (h : ab_H) (i κf κ : Nat) : Bool := match ab_ko κf, ab_ko κ, ab_ka κf, ab_ka κ with
  | some q, some q', none, none => (Nat.beq q.1 q'.1 && Nat.beq (ee_len q.2) (ee_len q'.2)) && ab_pfs h i q'.2 (nat_lit 0)
  | none, none, some q, some q' => (Nat.beq q.1 q'.1 && (Nat.ble (nat_lit 3) q.1 && Nat.ble q.1 (nat_lit 6))) && (match ab_ff h.2.2.2.1 i (nat_lit 2, nat_lit 0, 0, 0) with
    | some (.inl f) => (decide (f.2.1 = 0) && (decide (0 ≤ f.2.2) && (decide (q'.2.1 ≤ f.2.2) && decide (f.2.2 ≤ q'.2.2)))) && ab_pes h i (ab_ke κ (nat_lit 0)) f.2.2.toNat (nat_lit 0)
    | _ => false)
  | _, _, _, _ => false
def ab_hpb (cls : Nat → List ab_Cl) (mask X i κ : Nat) : ab_S → Option (List ab_S)
  | (pc, lo, st, h, r) => match ee_nth h.2.2.1 i with
    | some κf => bif (((Nat.ble (nat_lit 45) κf && Nat.blt κf (nat_lit 64)) && (Nat.blt κ (nat_lit 45) || Nat.ble (nat_lit 64) κ)) && ((!Nat.beq κ (nat_lit 29) && (!Nat.beq κ (nat_lit 17) && !Nat.beq κ (nat_lit 37))) && (ab_wm mask κf && !ab_wm X κf))) && ((ab_unq κf i h.2.2.1 (nat_lit 0) && ab_pty h i κf κ) && (cls κ).all (fun cc => ab_pv h i cc)) then some [(pc, lo, st, (h.1, h.2.1, ab_lset h.2.2.1 i κ, h.2.2.2.1, h.2.2.2.2.filter (fun d => !Nat.beq d.1 i)), r)] else none
    | none => none
section PH
variable {cls : Nat → List ab_Cl} {p : Program} {l : Launch} {e : Env} {R : Room} {s : State} {m : MethodId} {args : Array Value} {below : List Frame} {meth : Method} {c : Code} {Q : State → Prop} {D : va_G} {dA : Nat → ClassId} {xa : List Nat} {xt : ee_X} {B : Nat} {rv0 : List Int} {sv0 : ab_B} {y : Nat}
theorem ab_pfs_at {h : ab_H} {i : Nat} : ∀ {ts : List ab_T} {j0 : Nat}, ab_pfs h i ts j0 = true → ∀ (j : Nat) (t : ab_T), ts[j]? = some t → ∃ a, ab_ff h.2.2.2.1 i (0, j0 + j, 0, 0) = some a ∧ ab_fits h t a = true
  | [], j0, _, j, t, ht => by simp at ht
  | t0 :: ts, j0, hd, j, t, ht => by
    unfold ab_pfs at hd
    rw [Bool.and_eq_true] at hd
    cases j with
    | zero =>
      have ht' : t0 = t := by simpa using ht
      subst ht'
      have h1 := hd.1
      split at h1
      · rename_i a ha
        exact ⟨a, ha, h1⟩
      · cases h1
    | succ j =>
      obtain ⟨a, h1, h2⟩ := ab_pfs_at hd.2 j t (by simpa using ht)
      refine ⟨a, ?_, h2⟩
      have e9 : Nat.succ j0 + j = j0 + (j + 1) := by omega
      rw [e9] at h1
      exact h1
theorem ab_pes_at {h : ab_H} {i : Nat} {t : ab_T} : ∀ {n j0 : Nat}, ab_pes h i t n j0 = true → ∀ j : Nat, j < n → ∃ a, ab_ff h.2.2.2.1 i (1, 0, 0, ((j0 + j : Nat) : Int)) = some a ∧ ab_fits h t a = true
  | 0, _, _, j, hj => by omega
  | n + 1, j0, hd, j, hj => by
    unfold ab_pes at hd
    rw [Bool.and_eq_true] at hd
    cases j with
    | zero =>
      have h1 := hd.1
      split at h1
      · rename_i a ha
        exact ⟨a, ha, h1⟩
      · cases h1
    | succ j =>
      obtain ⟨a, h1, h2⟩ := ab_pes_at hd.2 j (by omega)
      refine ⟨a, ?_, h2⟩
      have e9 : Nat.succ j0 + j = j0 + (j + 1) := by omega
      rw [e9] at h1
      exact h1
theorem ab_pty_snd {ks : List Nat} {ws : va_W} {rv : List Int} {sv : List (Nat × Nat)} {h : ab_H} (hG : ab_G cls dA xa ks ws rv sv h) {i κf κ : Nat} {q : Nat × Nat} {ee : va_E} (h45 : 45 ≤ κf) (hq : sv[i]? = some q) (hk : ks[q.1]? = some κf) (hw : ws[q.1]? = some (q.2, ee)) (n17 : κ ≠ 17) (n37 : κ ≠ 37) (ht : ab_pty h i κf κ = true) : ab_cell dA (ks.set q.1 κ) (ws.map (·.1)) κ ee := by
  obtain ⟨a9, e9, w1, hc⟩ := hG.2.2.2.2.1.2 _ κf hk
  rw [hw] at w1
  cases w1
  unfold ab_pty at ht
  split at ht
  · rename_i qf q' h1 h2 h3 h4
    obtain ⟨ci, tf⟩ := qf
    obtain ⟨ci', ts⟩ := q'
    rw [Bool.and_eq_true, Bool.and_eq_true] at ht
    obtain ⟨⟨c1, c2⟩, c3⟩ := ht
    have e1 : ci = ci' := Nat.eq_of_beq_eq_true c1
    subst e1
    have e2 : tf.length = ts.length := by
      have h9 := Nat.eq_of_beq_eq_true c2
      rw [ee_len_eq, ee_len_eq] at h9
      exact h9
    obtain ⟨vs, rfl, v2, v3⟩ := hc.1 _ _ h1
    refine ⟨fun ci9 ts9 h9 => ?_, fun t9 lo9 hi9 h9 => (by rw [h4] at h9; cases h9), ab_c3_no n17 n37⟩
    rw [h2] at h9
    cases h9
    refine ⟨vs, rfl, by omega, fun j t htj => ?_⟩
    obtain ⟨a, f1, f2⟩ := ab_pfs_at c3 j t htj
    rw [Nat.zero_add] at f1
    obtain ⟨qf, ef, ii, vf, g1, g2, g3, g4, g5⟩ := hG.2.2.2.1 _ (ab_ff_in f1)
    have g1' : sv[i]? = some qf := g1
    rw [hq] at g1'
    cases g1'
    rw [hw] at g2
    cases g2
    have g3' : some (j : Int) = some ii := g3
    cases g3'
    have g4' : vs[((j : Nat) : Int).toNat]? = some vf := g4
    rw [Int.toNat_natCast] at g4'
    exact ⟨vf, g4', ab_tv_set hk h45 (ab_ko45 h2 htj) (ab_fits_snd hG g5 f2)⟩
  · rename_i qf q' h1 h2 h3 h4
    obtain ⟨t0, mn, mx⟩ := qf
    obtain ⟨t1, mn', mx'⟩ := q'
    rw [Bool.and_eq_true, Bool.and_eq_true, Bool.and_eq_true] at ht
    obtain ⟨⟨c1, c2, c3⟩, c4⟩ := ht
    have e1 : t0 = t1 := Nat.eq_of_beq_eq_true c1
    subst e1
    have c2' : 3 ≤ t0 := Nat.le_of_ble_eq_true c2
    have c3' : t0 ≤ 6 := Nat.le_of_ble_eq_true c3
    split at c4
    · rename_i f hf
      simp only [Bool.and_eq_true, decide_eq_true_eq] at c4
      obtain ⟨⟨d1, d2, d3, d4⟩, d5⟩ := c4
      rcases hc.2.1 _ _ _ h3 with ⟨hz, -⟩ | ⟨hz, -⟩ | ⟨-, -, n, g, rfl, -, -, -⟩
      · omega
      · omega
      · obtain ⟨qf, ef, ii, vf, g1, g2, g3, g4, xl, g5, g6⟩ := hG.2.2.2.1 _ (ab_ff_in hf)
        have g1' : sv[i]? = some qf := g1
        rw [hq] at g1'
        cases g1'
        rw [hw] at g2
        cases g2
        subst g5
        have g4' : (if n < 2147483648 then some (Value.int (Int32.ofNat n)) else none) = some (.int xl) := g4
        have hn : n < 2147483648 := by
          by_cases h9 : n < 2147483648
          · exact h9
          · rw [if_neg h9] at g4'
            cases g4'
        rw [if_pos hn] at g4'
        cases g4'
        rw [ab_ev0 d1] at g6
        have e7 : (Int32.ofNat n).toInt = (n : Int) := nI_toInt (n := n) (by omega)
        have e8 : f.2.2 = (n : Int) := by
          have h9 := Option.some.inj g6
          rw [e7] at h9
          exact h9
        refine ⟨fun ci9 ts9 h9 => (by rw [h2] at h9; cases h9), fun t9 lo9 hi9 h9 => ?_, ab_c3_no n17 n37⟩
        rw [h4] at h9
        cases h9
        refine Or.inr (Or.inr ⟨c2', c3', n, g, rfl, by omega, by omega, fun j hj => ?_⟩)
        obtain ⟨a, f1, f2⟩ := ab_pes_at d5 j (by omega)
        rw [Nat.zero_add] at f1
        obtain ⟨qf, ef, ii, vf, u1, u2, u3, u4, u5⟩ := hG.2.2.2.1 _ (ab_ff_in f1)
        have u1' : sv[i]? = some qf := u1
        rw [hq] at u1'
        cases u1'
        rw [hw] at u2
        cases u2
        have u3' : some ((j : Nat) : Int) = some ii := u3
        cases u3'
        have u4' : (if 0 ≤ ((j : Nat) : Int) ∧ ((j : Nat) : Int) < (n : Int) then some (va_rf (g ((j : Nat) : Int).toNat)) else none) = some vf := u4
        rw [if_pos ⟨by omega, by omega⟩, Int.toNat_natCast] at u4'
        cases u4'
        rw [ab_ke_u (ee_bn n37)]
        exact ab_tv_set hk h45 (ab_ke45 κ 0) (ab_fits_snd hG u5 f2)
    · cases c4
  · cases ht
theorem ab_hpb_snd {mask X i κ : Nat} (hmask : sv0.2.2.1 = ab_wm mask) (hXX : sv0.2.2.2.2.1 = X) {S : ab_S} {L : List ab_S} (h : ab_hpb cls mask X i κ S = some L) (k : ∀ S ∈ L, ab_WS cls p l e R s m args below meth c Q D dA xa B rv0 sv0 y S) : ab_WS cls p l e R s m args below meth c Q D dA xa B rv0 sv0 y S := by
  obtain ⟨pc, lo, st, hh, r⟩ := S
  unfold ab_hpb at h
  dsimp only at h
  split at h
  · rename_i κf hκ
    cases hz : ((((Nat.ble (nat_lit 45) κf && Nat.blt κf (nat_lit 64)) && (Nat.blt κ (nat_lit 45) || Nat.ble (nat_lit 64) κ)) && ((!Nat.beq κ (nat_lit 29) && (!Nat.beq κ (nat_lit 17) && !Nat.beq κ (nat_lit 37))) && (ab_wm mask κf && !ab_wm X κf))) && ((ab_unq κf i hh.2.2.1 (nat_lit 0) && ab_pty hh i κf κ) && (cls κ).all (fun cc => ab_pv hh i cc))) with
    | false => rw [ee_cf hz] at h; cases h
    | true =>
      rw [ee_ct hz] at h
      cases h
      simp only [Bool.and_eq_true] at hz
      obtain ⟨⟨⟨⟨z1, z11⟩, z2⟩, ⟨z3, z4, z5⟩, z6, z7⟩, ⟨z8, z9⟩, z10⟩ := hz
      have nb : ∀ cN : Nat, (!Nat.beq κ cN) = true → κ ≠ cN := by
        intro cN h9 h8
        rw [h8, Nat.beq_refl] at h9
        cases h9
      have y1 : 45 ≤ κf := Nat.le_of_ble_eq_true z1
      have y11 : κf < 64 := Nat.le_of_ble_eq_true z11
      have y2 : κ < 45 ∨ 64 ≤ κ := by
        rw [Bool.or_eq_true] at z2
        exact z2.imp (fun w => Nat.le_of_ble_eq_true w) (fun w => Nat.le_of_ble_eq_true w)
      have n29 := nb 29 z3
      intro ks ws rv sv H locs ls vs hr0 hs0 hG hP hD hS hl hv
      rw [ee_nth_eq] at hκ
      obtain ⟨q, ee, w1, w2, w3⟩ := hG.2.2.1.2 _ _ hκ
      have hcell := ab_pty_snd hG y1 w1 w2 w3 (nb 17 z4) (nb 37 z5) z9
      have hG2 := ab_G_pub (κ := κ) hG hκ y1 (fun j hj => by
        have h9 := ab_unq_in z8 j hj
        omega) w1 w2 w3 hcell (fun cc hc => ab_pv_snd hG hD (List.all_eq_true.mp z10 cc hc) w1 w3)
      have hbit : sv0.2.2.2.2.1.testBit κf = false := by
        rw [hXX, ← ab_wm_bit]
        cases h9 : ab_wm X κf with
        | false => rfl
        | true => rw [h9] at z7; cases z7
      have hpx := ab_px_pub hs0 w2 y1 y11 y2 n29 (by rw [hmask]; exact z6) hbit
      have k9 := k _ List.mem_cons_self (ks.set q.1 κ) ws rv sv H locs ls vs hr0 hpx (by rw [ab_lset_eq]; exact hG2) hP hD hS hl hv
      dsimp only at k9 ⊢
      rw [ab_ph_pub w2 (by omega) n29] at k9
      exact k9
  · cases h
end PH
