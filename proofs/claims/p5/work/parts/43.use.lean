/-! ===== hint: a clause is used ===== -/
/-- the key of a clause's word of sort 0 (a field) or 1 (an element) -/
def ab_rk1 (rr : ab_R) : Option ab_Key := bif Nat.beq rr.1 (nat_lit 0) then some (nat_lit 0, rr.2.1, 0, 0) else bif Nat.beq rr.1 (nat_lit 1) then some (nat_lit 1, nat_lit 0, 0, (rr.2.1 : Int)) else none
def ab_rf0 (h : ab_H) (i : Nat) (rr : ab_R) : Option ab_L := match ab_rk1 rr with
  | some key => (match ab_ff h.2.2.2.1 i key with
    | some (.inl f) => some f
    | _ => none)
  | none => none
/-- the name of a reference that isn't null -/
def ab_rfn : Option ab_A → Option Nat
  | some (.inr (.inl (z + 1))) => bif Nat.beq (Nat.mod z (nat_lit 2)) (nat_lit 0) then some (Nat.div z (nat_lit 2)) else none
  | _ => none
def ab_rfi : Option ab_A → Option ab_L
  | some (.inl f) => some f
  | _ => none
def ab_nn0 (h : ab_H) (mx : Int) (g : ab_L) : Bool := match ab_bd h.1 g with
  | some q => decide (0 ≤ q.1) && decide (q.2 ≤ mx)
  | none => false
def ab_rf1 (h : ab_H) (i : Nat) (rr : ab_R) : Option ab_L := bif Nat.ble rr.1 (nat_lit 1) then ab_rf0 h i rr
  else bif Nat.beq rr.1 (nat_lit 2) then (match ab_rfn (ab_ff h.2.2.2.1 i (nat_lit 0, rr.2.1, 0, 0)) with
    | some z => ab_rfi (ab_ff h.2.2.2.1 z (nat_lit 2, nat_lit 0, 0, 0))
    | none => none)
  else bif Nat.beq rr.1 (nat_lit 3) then (match ab_rfn (ab_ff h.2.2.2.1 i (nat_lit 0, rr.2.1, 0, 0)), ab_rfi (ab_ff h.2.2.2.1 i (nat_lit 0, rr.2.2.1, 0, 0)) with
    | some z, some g => bif ab_nn0 h 2147483647 g then (ab_g (4 * g.2.1) fun u => ab_g (4 * g.2.2 + (rr.2.2.2 : Int)) fun o => ab_rfi (ab_ff h.2.2.2.1 z (nat_lit 1, g.1, u, o))) else none
    | _, _ => none)
  else bif Nat.beq rr.1 (nat_lit 4) && Nat.blt rr.2.2.1 (nat_lit 4) then (match ab_rfi (ab_ff h.2.2.2.1 i (nat_lit 1, nat_lit 0, 0, (rr.2.1 : Int))) with
    | some g => bif ab_nn0 h 19 g && (match ee_nth h.2.2.1 i with
      | some κ => Nat.beq κ (nat_lit 37)
      | none => false) then (ab_g (4 * g.2.1) fun u => ab_g (4 * g.2.2 + (540 + 200 * (rr.2.2.1 : Int))) fun o => ab_rfi (ab_ff h.2.2.2.1 i (nat_lit 1, g.1, u, o))) else none
    | none => none)
  else none
section US
variable {cls : Nat → List ab_Cl} {dA : Nat → ClassId} {xa : List Nat} {ks : List Nat} {ws : va_W} {rv : List Int} {sv : List (Nat × Nat)} {h : ab_H}
theorem ab_rf0_snd (hG : ab_G cls dA xa ks ws rv sv h) {i : Nat} {rr : ab_R} {f : ab_L} (hf : ab_rf0 h i rr = some f) : ∃ (q : Nat × Nat) (ee : va_E) (x : Int), sv[i]? = some q ∧ ws[q.1]? = some (q.2, ee) ∧ ab_cr ws ee rr = some x ∧ ab_ev rv f = some x := by
  unfold ab_rf0 at hf
  split at hf
  · rename_i key hkey
    split at hf
    · rename_i f9 hf9
      cases hf
      obtain ⟨q, ee, ii, vf, f1, f2, f3, f4, x9, rfl, hx9⟩ := hG.2.2.2.1 _ (ab_ff_in hf9)
      refine ⟨q, ee, x9.toInt, f1, f2, ?_, hx9⟩
      obtain ⟨t1, t2, t3, t4⟩ := rr
      unfold ab_rk1 at hkey
      dsimp only at hkey
      cases c0 : Nat.beq t1 (nat_lit 0) with
      | true =>
        rw [ee_ct c0] at hkey
        cases hkey
        have e0 : t1 = 0 := Nat.eq_of_beq_eq_true c0
        subst e0
        cases f3
        match ee, f4 with
        | .inr (ci, vs), f4 =>
          have f4' : vs[((t2 : Nat) : Int).toNat]? = some (.int x9) := f4
          rw [Int.toNat_natCast] at f4'
          show ab_fi vs t2 = _
          unfold ab_fi
          rw [f4']
        | .inl (cA, n9, .inl g9), f4 => cases f4
        | .inl (cA, n9, .inr g9), f4 => cases f4
      | false =>
        rw [ee_cf c0] at hkey
        cases c1 : Nat.beq t1 (nat_lit 1) with
        | false => rw [ee_cf c1] at hkey; cases hkey
        | true =>
          rw [ee_ct c1] at hkey
          cases hkey
          have e0 : t1 = 1 := Nat.eq_of_beq_eq_true c1
          subst e0
          have f3' : ab_ev rv (0, 0, (t2 : Int)) = some ii := f3
          rw [ab_ev0 rfl] at f3'
          cases f3'
          match ee, f4 with
          | .inr (ci, vs), f4 => cases f4
          | .inl (cA, n9, .inl g9), f4 =>
            have f4' : (if 0 ≤ (t2 : Int) ∧ (t2 : Int) < (n9 : Int) then some (Value.int (g9 ((t2 : Nat) : Int).toNat)) else none) = some (.int x9) := f4
            by_cases hin : 0 ≤ (t2 : Int) ∧ (t2 : Int) < (n9 : Int)
            · rw [if_pos hin, Int.toNat_natCast] at f4'
              cases f4'
              show (if t2 < n9 then some (g9 t2).toInt else none) = _
              rw [if_pos (by omega)]
            · rw [if_neg hin] at f4'
              cases f4'
          | .inl (cA, n9, .inr (.inl g9)), f4 => cases f4
          | .inl (cA, n9, .inr (.inr (.inl g9))), f4 => cases f4
          | .inl (cA, n9, .inr (.inr (.inr (.inl g9)))), f4 => cases f4
          | .inl (cA, n9, .inr (.inr (.inr (.inr g9)))), f4 =>
            have f4' : (if 0 ≤ (t2 : Int) ∧ (t2 : Int) < (n9 : Int) then some (va_rf (g9 ((t2 : Nat) : Int).toNat)) else none) = some (.int x9) := f4
            by_cases hin : 0 ≤ (t2 : Int) ∧ (t2 : Int) < (n9 : Int)
            · rw [if_pos hin] at f4'
              cases hgv : g9 ((t2 : Nat) : Int).toNat with
              | none => rw [hgv] at f4'; cases f4'
              | some w9 => rw [hgv] at f4'; cases f4'
            · rw [if_neg hin] at f4'
              cases f4'
    · cases hf
  · cases hf
theorem ab_rfn_eq {o : Option ab_A} {z : Nat} (h : ab_rfn o = some z) : ∃ u, o = some (.inr (.inl (u + 1))) ∧ Nat.beq (Nat.mod u 2) 0 = true ∧ z = u / 2 := by
  unfold ab_rfn at h
  split at h
  · rename_i u
    cases hz : Nat.beq (Nat.mod u (nat_lit 2)) (nat_lit 0) with
    | false => rw [ee_cf hz] at h; cases h
    | true =>
      rw [ee_ct hz] at h
      exact ⟨u, rfl, hz, (Option.some.inj h).symm⟩
  · cases h
theorem ab_rfi_eq {o : Option ab_A} {f : ab_L} (h : ab_rfi o = some f) : o = some (.inl f) := by
  unfold ab_rfi at h
  split at h
  · cases h; rfl
  · cases h
theorem ab_ar_at {A : Nat → Prop} (hD : va_D A ws) {k a j : Nat} {ee : va_E} {vs : List Value} (hw : ws[k]? = some (a, ee)) (hv : vs[j]? = some (.ref a)) : ab_ar ws vs j = some (a, ee) := by
  unfold ab_ar
  rw [hv]
  dsimp only
  cases hf : ws.find? (fun z => z.1 == a) with
  | none =>
    have h6 := List.find?_eq_none.mp hf (a, ee) (List.mem_of_getElem? hw)
    exact absurd (by simp) h6
  | some q =>
    have h7 := List.find?_some hf
    have h8 : q.1 = a := by simpa using h7
    obtain ⟨k7, hk7⟩ := List.getElem?_of_mem (List.mem_of_find?_eq_some hf)
    have hkk : k7 = k := hD.1 k7 k q _ hk7 hw h8
    subst hkk
    rw [hk7] at hw
    rw [← Option.some.inj hw]
/-- a field that names a cell, by a fact -/
theorem ab_fld_ref (hG : ab_G cls dA xa ks ws rv sv h) {i j z : Nat} (hf : ab_rfn (ab_ff h.2.2.2.1 i (0, j, 0, 0)) = some z) : ∃ (q q2 : Nat × Nat) (ci : Nat) (vs : List Value) (e2 : va_E), sv[i]? = some q ∧ ws[q.1]? = some (q.2, .inr (ci, vs)) ∧ sv[z]? = some q2 ∧ ws[q2.1]? = some (q2.2, e2) ∧ vs[j]? = some (.ref q2.2) := by
  obtain ⟨u, h1, h2, h3⟩ := ab_rfn_eq hf
  obtain ⟨q, ee, ii, vf, f1, f2, f3, f4, f5⟩ := hG.2.2.2.1 _ (ab_ff_in h1)
  obtain ⟨q2, q21, rfl⟩ := ab_nnul h2 f5
  have hz : z < h.2.2.1.length := by
    rw [← hG.2.2.1.1, h3]
    exact (List.getElem?_eq_some_iff.mp q21).1
  obtain ⟨q3, e3, w1, w2, w3⟩ := hG.2.2.1.2 z _ (List.getElem?_eq_getElem hz)
  rw [h3, q21] at w1
  have e9 : q2 = q3 := Option.some.inj w1
  subst e9
  cases f3
  match ee, f4, f2 with
  | .inr (ci, vs), f4, f2 =>
    have f4' : vs[((j : Nat) : Int).toNat]? = some (.ref q2.2) := f4
    rw [Int.toNat_natCast] at f4'
    exact ⟨q, q2, ci, vs, e3, f1, f2, by rw [h3]; exact q21, w3, f4'⟩
  | .inl (cA, n9, .inl g9), f4, _ => cases f4
  | .inl (cA, n9, .inr g9), f4, _ => cases f4
theorem ab_el_fact (hG : ab_G cls dA xa ks ws rv sv h) {i : Nat} {g f : ab_L} (hf : ab_rfi (ab_ff h.2.2.2.1 i (1, g)) = some f) : ∃ (q : Nat × Nat) (cA : ClassId) (n : Nat) (ff : Nat → Int32) (ii : Int), sv[i]? = some q ∧ ws[q.1]? = some (q.2, .inl (cA, n, .inl ff)) ∧ ab_ev rv g = some ii ∧ 0 ≤ ii ∧ ii < (n : Int) ∧ ab_ev rv f = some (ff ii.toNat).toInt := by
  obtain ⟨q, ee, ii, vf, f1, f2, f3, f4, x9, rfl, hx9⟩ := hG.2.2.2.1 _ (ab_ff_in (ab_rfi_eq hf))
  match ee, f4, f2 with
  | .inr (ci, vs), f4, _ => cases f4
  | .inl (cA, n9, .inl g9), f4, f2 =>
    have f4' : (if 0 ≤ ii ∧ ii < (n9 : Int) then some (Value.int (g9 ii.toNat)) else none) = some (.int x9) := f4
    by_cases hin : 0 ≤ ii ∧ ii < (n9 : Int)
    · rw [if_pos hin] at f4'
      cases f4'
      exact ⟨q, cA, n9, g9, ii, f1, f2, f3, hin.1, hin.2, hx9⟩
    · rw [if_neg hin] at f4'
      cases f4'
  | .inl (cA, n9, .inr (.inl g9)), f4, _ => cases f4
  | .inl (cA, n9, .inr (.inr (.inl g9))), f4, _ => cases f4
  | .inl (cA, n9, .inr (.inr (.inr (.inl g9)))), f4, _ => cases f4
  | .inl (cA, n9, .inr (.inr (.inr (.inr g9)))), f4, _ =>
    have f4' : (if 0 ≤ ii ∧ ii < (n9 : Int) then some (va_rf (g9 ii.toNat)) else none) = some (.int x9) := f4
    by_cases hin : 0 ≤ ii ∧ ii < (n9 : Int)
    · rw [if_pos hin] at f4'
      cases hgv : g9 ii.toNat with
      | none => rw [hgv] at f4'; cases f4'
      | some w9 => rw [hgv] at f4'; cases f4'
    · rw [if_neg hin] at f4'
      cases f4'
theorem ab_ev_4 {g : ab_L} {x c0 : Int} (hx : ab_ev rv g = some x) : ab_ev rv (g.1, 4 * g.2.1, 4 * g.2.2 + c0) = some (4 * x + c0) := by
  unfold ab_ev at hx ⊢
  by_cases h0 : g.2.1 = 0
  · rw [if_pos h0] at hx
    rw [if_pos (by show 4 * g.2.1 = 0; omega)]
    rw [← Option.some.inj hx]
  · rw [if_neg h0] at hx
    rw [if_neg (by show ¬ 4 * g.2.1 = 0; omega)]
    cases hz : rv[g.1]? with
    | none => rw [hz] at hx; cases hx
    | some z =>
      rw [hz] at hx
      have e1 : g.2.1 * z + g.2.2 = x := Option.some.inj hx
      show some (4 * g.2.1 * z + (4 * g.2.2 + c0)) = _
      rw [← e1, Int.mul_add, Int.mul_assoc, Int.add_assoc]
theorem ab_rf1_snd {A : Nat → Prop} (hG : ab_G cls dA xa ks ws rv sv h) (hD : va_D A ws) {i : Nat} {rr : ab_R} {f : ab_L} (hf : ab_rf1 h i rr = some f) : ∃ (q : Nat × Nat) (ee : va_E) (x : Int), sv[i]? = some q ∧ ws[q.1]? = some (q.2, ee) ∧ ab_cr ws ee rr = some x ∧ ab_ev rv f = some x := by
  obtain ⟨t1, t2, t3, t4⟩ := rr
  unfold ab_rf1 at hf
  dsimp only at hf
  cases c1 : Nat.ble t1 (nat_lit 1) with
  | true => rw [ee_ct c1] at hf; exact ab_rf0_snd hG hf
  | false =>
  rw [ee_cf c1] at hf
  cases c2 : Nat.beq t1 (nat_lit 2) with
  | true =>
    rw [ee_ct c2] at hf
    have e0 : t1 = 2 := Nat.eq_of_beq_eq_true c2
    subst e0
    split at hf
    · rename_i z hz
      obtain ⟨q, q2, ci, vs, e2, g1, g2, g3, g4, g5⟩ := ab_fld_ref hG hz
      obtain ⟨qf, ef, ii, vf, f1, f2, f3, f4, x9, rfl, hx9⟩ := hG.2.2.2.1 _ (ab_ff_in (ab_rfi_eq hf))
      have f1' : sv[z]? = some qf := f1
      rw [g3] at f1'
      have e9 : q2 = qf := Option.some.inj f1'
      subst e9
      rw [g4] at f2
      have e8 : e2 = ef := congrArg Prod.snd (Option.some.inj f2)
      subst e8
      refine ⟨q, _, x9.toInt, g1, g2, ?_, hx9⟩
      show (match ab_ar ws vs t2 with
        | some (_, .inl (_, n, _)) => some (n : Int)
        | _ => none) = _
      rw [ab_ar_at hD g4 g5]
      match e2, f4 with
      | .inr z9, f4 => cases f4
      | .inl (cA, n9, c9), f4 =>
        have f4' : (if n9 < 2147483648 then some (Value.int (Int32.ofNat n9)) else none) = some (.int x9) := f4
        by_cases hn : n9 < 2147483648
        · rw [if_pos hn] at f4'
          cases f4'
          show some (n9 : Int) = some (Int32.ofNat n9).toInt
          have e7 : (Int32.ofNat n9).toInt = (n9 : Int) := nI_toInt (n := n9) (by omega)
          rw [e7]
        · rw [if_neg hn] at f4'
          cases f4'
    · cases hf
  | false =>
  rw [ee_cf c2] at hf
  cases c3 : Nat.beq t1 (nat_lit 3) with
  | true =>
    rw [ee_ct c3] at hf
    have e0 : t1 = 3 := Nat.eq_of_beq_eq_true c3
    subst e0
    split at hf
    · rename_i z g hz hg
      cases c4 : ab_nn0 h 2147483647 g with
      | false => rw [ee_cf c4] at hf; cases hf
      | true =>
        rw [ee_ct c4, ab_g_eq, ab_g_eq] at hf
        obtain ⟨q, q2, ci, vs, e2, g1, g2, g3, g4, g5⟩ := ab_fld_ref hG hz
        obtain ⟨qf, ef, ii, vf, f1, f2, f3, f4, x9, rfl, hx9⟩ := hG.2.2.2.1 _ (ab_ff_in (ab_rfi_eq hg))
        have f1' : sv[i]? = some qf := f1
        rw [g1] at f1'
        have e9 : q = qf := Option.some.inj f1'
        subst e9
        rw [g2] at f2
        have e8 : Sum.inr (ci, vs) = ef := congrArg Prod.snd (Option.some.inj f2)
        subst e8
        cases f3
        have f4' : vs[((t3 : Nat) : Int).toNat]? = some (.int x9) := f4
        rw [Int.toNat_natCast] at f4'
        have hx0 : 0 ≤ x9.toInt := by
          unfold ab_nn0 at c4
          split at c4
          · rename_i p9 hp9
            have b9 := ab_bd_in hG.1 hp9 hx9
            rw [Bool.and_eq_true, decide_eq_true_eq] at c4
            omega
          · cases c4
        obtain ⟨q3, cA, n9, ff, jj, k1, k2, k3, k4, k5, k6⟩ := ab_el_fact hG hf
        rw [ab_ev_4 hx9] at k3
        have e7 : 4 * x9.toInt + (t4 : Int) = jj := Option.some.inj k3
        rw [g3] at k1
        have e6 : q2 = q3 := Option.some.inj k1
        subst e6
        rw [g4] at k2
        have e5 : e2 = .inl (cA, n9, .inl ff) := congrArg Prod.snd (Option.some.inj k2)
        subst e5
        refine ⟨q, _, _, g1, g2, ?_, k6⟩
        show (match ab_ar ws vs t2, ab_fi vs t3 with
          | some (_, .inl (_, n, .inl f)), some x => if 0 ≤ x ∧ 4 * x + (t4 : Int) < (n : Int) then some (f (4 * x + t4).toNat).toInt else none
          | _, _ => none) = _
        rw [ab_ar_at hD g4 g5, show ab_fi vs t3 = some x9.toInt by unfold ab_fi; rw [f4']]
        dsimp only
        rw [if_pos ⟨hx0, by omega⟩, e7]
    · cases hf
  | false =>
  rw [ee_cf c3] at hf
  cases c4 : (Nat.beq t1 (nat_lit 4) && Nat.blt t3 (nat_lit 4)) with
  | false => rw [ee_cf c4] at hf; cases hf
  | true =>
    rw [ee_ct c4] at hf
    rw [Bool.and_eq_true] at c4
    have e0 : t1 = 4 := Nat.eq_of_beq_eq_true c4.1
    have h34 : t3 < 4 := Nat.le_of_ble_eq_true c4.2
    subst e0
    split at hf
    · rename_i g hg
      cases c5' : (ab_nn0 h 19 g && (match ee_nth h.2.2.1 i with
        | some κ => Nat.beq κ (nat_lit 37)
        | none => false)) with
      | false => rw [ee_cf c5'] at hf; cases hf
      | true =>
        rw [ee_ct c5', ab_g_eq, ab_g_eq] at hf
        rw [Bool.and_eq_true] at c5'
        obtain ⟨c5, c6⟩ := c5'
        obtain ⟨q, cA, n9, ff, jj, k1, k2, k3, k4, k5, k6⟩ := ab_el_fact hG hg
        rw [ab_ev0 rfl] at k3
        have e7 : (t2 : Int) = jj := Option.some.inj k3
        subst e7
        rw [Int.toNat_natCast] at k6
        obtain ⟨q3, cA3, n3, ff3, j3, l1, l2, l3, l4, l5, l6⟩ := ab_el_fact hG hf
        rw [k1] at l1
        have e6 : q = q3 := Option.some.inj l1
        subst e6
        rw [k2] at l2
        cases l2
        rw [ab_ev_4 k6] at l3
        have e5 : 4 * (ff t2).toInt + (540 + 200 * (t3 : Int)) = j3 := Option.some.inj l3
        have hx0 : 0 ≤ (ff t2).toInt ∧ (ff t2).toInt ≤ 19 := by
          unfold ab_nn0 at c5
          split at c5
          · rename_i p9 hp9
            have b9 := ab_bd_in hG.1 hp9 k6
            rw [Bool.and_eq_true, decide_eq_true_eq, decide_eq_true_eq] at c5
            omega
          · cases c5
        have hn : 1580 ≤ n9 := by
          split at c6
          · rename_i κ hκ
            rw [ee_nth_eq] at hκ
            have e37 : κ = 37 := Nat.eq_of_beq_eq_true c6
            subst e37
            obtain ⟨q8, e8, w1, w2, w3⟩ := hG.2.2.1.2 _ _ hκ
            rw [k1] at w1
            have e4 : q = q8 := Option.some.inj w1
            subst e4
            obtain ⟨a9, e9, u1, u2⟩ := hG.2.2.2.2.1.2 _ 37 w2
            rw [k2] at u1
            cases u1
            rcases u2.2.1 0 7900 7900 rfl with ⟨-, n8, f8, e3, h5, -, -⟩ | ⟨h9, -⟩ | ⟨h9, -⟩
            · cases e3
              omega
            · cases h9
            · omega
          · cases c6
        refine ⟨q, _, _, k1, k2, ?_, l6⟩
        show (if (t2 < n9 ∧ 1580 ≤ n9 ∧ t3 < 4) ∧ 0 ≤ (ff t2).toInt ∧ (ff t2).toInt ≤ 19 then some (ff (540 + 200 * t3 + 4 * (ff t2).toInt.toNat)).toInt else none) = _
        rw [if_pos ⟨⟨by omega, hn, h34⟩, hx0⟩, show 540 + 200 * t3 + 4 * (ff t2).toInt.toNat = j3.toNat by omega]
    · cases hf
end US
