/-! ===== hint: a clause is used ===== -/
/-- the key of a clause's word of sort 0 (a field) or 1 (an element) -/
def ab_rk1 (rr : ab_R) : Option ab_Key := bif Nat.beq rr.1 (nat_lit 0) then some (nat_lit 0, rr.2.1, 0, 0) else bif Nat.beq rr.1 (nat_lit 1) then some (nat_lit 1, nat_lit 0, 0, (rr.2.1 : Int)) else none
def ab_rf1 (h : ab_H) (i : Nat) (rr : ab_R) : Option ab_L := match ab_rk1 rr with
  | some key => (match ab_ff h.2.2.2.1 i key with
    | some (.inl f) => some f
    | _ => none)
  | none => none
section US
variable {cls : Nat → List ab_Cl} {dA : Nat → ClassId} {xa : List Nat} {ks : List Nat} {ws : va_W} {rv : List Int} {sv : List (Nat × Nat)} {h : ab_H}
theorem ab_rf1_snd (hG : ab_G cls dA xa ks ws rv sv h) {i : Nat} {rr : ab_R} {f : ab_L} (hf : ab_rf1 h i rr = some f) : ∃ (q : Nat × Nat) (ee : va_E) (x : Int), sv[i]? = some q ∧ ws[q.1]? = some (q.2, ee) ∧ ab_cr ws ee rr = some x ∧ ab_ev rv f = some x := by
  unfold ab_rf1 at hf
  split at hf
  · rename_i key hkey
    split at hf
    · rename_i f9 hf9
      cases hf
      obtain ⟨q, ee, ii, vf, f1, f2, f3, f4, x9, rfl, hx9⟩ := hG.2.2.2.1 _ (ab_ff_in hf9)
      refine ⟨q, ee, x9.toInt, f1, f2, ?_, hx9⟩
      obtain ⟨t1, t2, t3, t4⟩ := rr
      unfold ab_rk1 at hkey
      dsimp only at hkey
      cases c0 : Nat.beq t1 (nat_lit 0) with
      | true =>
        rw [ee_ct c0] at hkey
        cases hkey
        have e0 : t1 = 0 := Nat.eq_of_beq_eq_true c0
        subst e0
        cases f3
        match ee, f4 with
        | .inr (ci, vs), f4 =>
          have f4' : vs[((t2 : Nat) : Int).toNat]? = some (.int x9) := f4
          rw [Int.toNat_natCast] at f4'
          show ab_fi vs t2 = _
          unfold ab_fi
          rw [f4']
        | .inl (cA, n9, .inl g9), f4 => cases f4
        | .inl (cA, n9, .inr g9), f4 => cases f4
      | false =>
        rw [ee_cf c0] at hkey
        cases c1 : Nat.beq t1 (nat_lit 1) with
        | false => rw [ee_cf c1] at hkey; cases hkey
        | true =>
          rw [ee_ct c1] at hkey
          cases hkey
          have e0 : t1 = 1 := Nat.eq_of_beq_eq_true c1
          subst e0
          have f3' : ab_ev rv (0, 0, (t2 : Int)) = some ii := f3
          rw [ab_ev0 rfl] at f3'
          cases f3'
          match ee, f4 with
          | .inr (ci, vs), f4 => cases f4
          | .inl (cA, n9, .inl g9), f4 =>
            have f4' : (if 0 ≤ (t2 : Int) ∧ (t2 : Int) < (n9 : Int) then some (Value.int (g9 ((t2 : Nat) : Int).toNat)) else none) = some (.int x9) := f4
            by_cases hin : 0 ≤ (t2 : Int) ∧ (t2 : Int) < (n9 : Int)
            · rw [if_pos hin, Int.toNat_natCast] at f4'
              cases f4'
              show (if t2 < n9 then some (g9 t2).toInt else none) = _
              rw [if_pos (by omega)]
            · rw [if_neg hin] at f4'
              cases f4'
          | .inl (cA, n9, .inr (.inl g9)), f4 => cases f4
          | .inl (cA, n9, .inr (.inr (.inl g9))), f4 => cases f4
          | .inl (cA, n9, .inr (.inr (.inr (.inl g9)))), f4 => cases f4
          | .inl (cA, n9, .inr (.inr (.inr (.inr g9)))), f4 =>
            have f4' : (if 0 ≤ (t2 : Int) ∧ (t2 : Int) < (n9 : Int) then some (va_rf (g9 ((t2 : Nat) : Int).toNat)) else none) = some (.int x9) := f4
            by_cases hin : 0 ≤ (t2 : Int) ∧ (t2 : Int) < (n9 : Int)
            · rw [if_pos hin] at f4'
              cases hgv : g9 ((t2 : Nat) : Int).toNat with
              | none => rw [hgv] at f4'; cases f4'
              | some w9 => rw [hgv] at f4'; cases f4'
            · rw [if_neg hin] at f4'
              cases f4'
    · cases hf
  · cases hf
end US
