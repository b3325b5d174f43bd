/-! ===== arrays are read ===== -/
def ab_kt (t want : Nat) : Bool := bif Nat.beq want (nat_lit 3) then Nat.ble (nat_lit 3) t && Nat.ble t (nat_lit 6) else Nat.beq t want
/-- an index is inside a row of at least mn places, or below a length that is known -/
def ab_inb (h : ab_H) (i : Nat) (mn : Int) (f : ab_L) : Bool := match ab_bd h.1 f with
  | some p => decide (0 ≤ p.1) && (decide (p.2 < mn) || (match ab_ff h.2.2.2.1 i (nat_lit 2, nat_lit 0, 0, 0) with
    | some (.inl g) => (match ab_dl h g f with
      | some d => decide (1 ≤ d)
      | none => false)
    | _ => false))
  | none => false
/-- the widest type of places i, i + step, .. -/
def ab_kh (κ step : Nat) : Nat → Nat → Option (Int × Int)
  | 0, i => (match ab_ke κ i with
    | .inl q => some q
    | _ => none)
  | n + 1, i => (match ab_ke κ i with
    | .inl q => (match ab_kh κ step n (Nat.add i step) with
      | some w => ab_g (ab_min q.1 w.1) fun lo => ab_g (ab_max q.2 w.2) fun hi => some (lo, hi)
      | none => none)
    | _ => none)
/-- the type of the place that a form says -/
def ab_et (κ : Nat) (h : ab_H) (f : ab_L) : Option ab_T := bif !Nat.beq κ (nat_lit 37) then some (ab_ke κ (nat_lit 0)) else bif decide (f.2.1 = 0) then some (ab_ke κ f.2.2.toNat) else match ee_nth h.1 f.1 with
  | some q => bif decide (0 < f.2.1) && decide (0 ≤ f.2.1 * q.1 + f.2.2) then (ee_f (q.2 - q.1).toNat fun cnt => ee_f (f.2.1 * q.1 + f.2.2).toNat fun i => match ab_kh κ f.2.1.toNat cnt i with
    | some w => some (.inl w)
    | none => none) else none
  | none => none
theorem ab_ke_u {κ : Nat} (hκ : Nat.beq κ 37 = false) (i : Nat) : ab_ke κ i = ab_ke κ 0 := by
  unfold ab_ke
  simp only [hκ, cond_false]
section AY
variable {cls : Nat → List ab_Cl} {dA : Nat → ClassId} {xa : List Nat} {ks : List Nat} {ws : va_W} {rv : List Int} {sv : List (Nat × Nat)} {h : ab_H}
theorem ab_kh_in {κ step : Nat} : ∀ {n i : Nat} {w : Int × Int}, ab_kh κ step n i = some w → ∀ j, j ≤ n → ∃ q, ab_ke κ (i + j * step) = .inl q ∧ w.1 ≤ q.1 ∧ q.2 ≤ w.2
  | 0, i, w, hw, j, hj => by
    have hj0 : j = 0 := by omega
    subst hj0
    unfold ab_kh at hw
    split at hw
    · rename_i q hq
      cases hw
      exact ⟨w, by rw [Nat.zero_mul, Nat.add_zero]; exact hq, Int.le_refl _, Int.le_refl _⟩
    · cases hw
  | n + 1, i, w, hw, j, hj => by
    unfold ab_kh at hw
    split at hw
    · rename_i q hq
      split at hw
      · rename_i w9 hw9
        simp only [ab_g_eq] at hw
        cases hw
        have m1 : ab_min q.1 w9.1 ≤ q.1 ∧ ab_min q.1 w9.1 ≤ w9.1 := by
          unfold ab_min
          by_cases c1 : q.1 ≤ w9.1
          · rw [ee_ct (by simpa using c1)]; omega
          · rw [ee_cf (by simpa using c1)]; omega
        have m2 : q.2 ≤ ab_max q.2 w9.2 ∧ w9.2 ≤ ab_max q.2 w9.2 := by
          unfold ab_max
          by_cases c1 : q.2 ≤ w9.2
          · rw [ee_ct (by simpa using c1)]; omega
          · rw [ee_cf (by simpa using c1)]; omega
        cases j with
        | zero => exact ⟨q, by rw [Nat.zero_mul, Nat.add_zero]; exact hq, m1.1, m2.1⟩
        | succ j =>
          obtain ⟨q8, e1, e2, e3⟩ := ab_kh_in hw9 j (by omega)
          refine ⟨q8, ?_, by dsimp only; omega, by dsimp only; omega⟩
          have e4 : Nat.add i step + j * step = i + (j + 1) * step := by
            rw [Nat.add_mul, Nat.one_mul]
            show i + step + j * step = _
            omega
          rw [← e4]
          exact e1
      · cases hw
    · cases hw
theorem ab_tv_wide {ad : List Nat} {v : Value} {q w : Int × Int} (h1 : w.1 ≤ q.1) (h2 : q.2 ≤ w.2) (hv : ab_tv ks ad v (.inl q)) : ab_tv ks ad v (.inl w) := by
  obtain ⟨x, e9, x1, x2⟩ := hv
  exact ⟨x, e9, by omega, by omega⟩
theorem ab_et_snd (hI : ab_I rv h.1) {κ : Nat} {f : ab_L} {t : ab_T} {xx : Int} (ht : ab_et κ h f = some t) (hx : ab_ev rv f = some xx) (h0 : 0 ≤ xx) {ad : List Nat} {v : Value} (hv : ab_tv ks ad v (ab_ke κ xx.toNat)) : ab_tv ks ad v t := by
  unfold ab_et at ht
  cases h37 : Nat.beq κ 37 with
  | false =>
    have e9 : (!Nat.beq κ (nat_lit 37)) = true := by
      show (!Nat.beq κ 37) = true
      rw [h37]; rfl
    rw [ee_ct e9] at ht
    cases ht
    rw [ab_ke_u h37] at hv
    exact hv
  | true =>
    have e9 : (!Nat.beq κ (nat_lit 37)) = false := by
      show (!Nat.beq κ 37) = false
      rw [h37]; rfl
    rw [ee_cf e9] at ht
    by_cases hm : f.2.1 = 0
    · rw [ee_ct (by simpa using hm)] at ht
      cases ht
      rw [ab_ev0 hm] at hx
      have hx' := Option.some.inj hx
      rw [hx']
      exact hv
    · rw [ee_cf (by simpa using hm)] at ht
      split at ht
      · rename_i q hq
        rw [ee_nth_eq] at hq
        obtain ⟨zz, z1, z2, z3⟩ := hI.2 _ _ hq
        obtain ⟨ww, w1, w2⟩ := ab_ev1 hm hx
        rw [z1] at w1
        cases w1
        cases hc : (decide (0 < f.2.1) && decide (0 ≤ f.2.1 * q.1 + f.2.2)) with
        | false => rw [ee_cf hc] at ht; cases ht
        | true =>
          rw [ee_ct hc] at ht
          simp only [ee_f_eq] at ht
          rw [Bool.and_eq_true, decide_eq_true_eq, decide_eq_true_eq] at hc
          split at ht
          · rename_i w hw
            cases ht
            obtain ⟨q8, e1, e2, e3⟩ := ab_kh_in hw (zz - q.1).toNat (by omega)
            have e4 : (f.2.1 * q.1 + f.2.2).toNat + (zz - q.1).toNat * f.2.1.toNat = xx.toNat := by
              have d1 : ((zz - q.1).toNat : Int) = zz - q.1 := Int.toNat_of_nonneg (by omega)
              have d2 : (f.2.1.toNat : Int) = f.2.1 := Int.toNat_of_nonneg (by omega)
              have d3 : ((f.2.1 * q.1 + f.2.2).toNat : Int) = f.2.1 * q.1 + f.2.2 := Int.toNat_of_nonneg hc.2
              have d4 : (xx.toNat : Int) = xx := Int.toNat_of_nonneg h0
              have d5 : (zz - q.1) * f.2.1 = f.2.1 * zz - f.2.1 * q.1 := by rw [Int.sub_mul, Int.mul_comm zz, Int.mul_comm q.1]
              apply Int.ofNat.inj
              show (((f.2.1 * q.1 + f.2.2).toNat + (zz - q.1).toNat * f.2.1.toNat : Nat) : Int) = (xx.toNat : Int)
              rw [Int.natCast_add, Int.natCast_mul, d1, d2, d3, d4, d5]
              omega
            rw [e4] at e1
            rw [e1] at hv
            exact ab_tv_wide e2 e3 hv
          · cases ht
      · cases ht
/-- the machine's own words on an index -/
theorem ab_vin {x : Int32} {nn : Nat} (h1 : 0 ≤ x.toInt) (h2 : x.toInt < (nn : Int)) : vp_in x nn ∧ x.toNatClampNeg = x.toInt.toNat := by
  refine ⟨fun z9 => ?_, rfl⟩
  rcases z9 with z9 | z9
  · rw [Int32.lt_iff_toInt_lt] at z9
    have e9 : (0 : Int32).toInt = 0 := rfl
    omega
  · have e9 : x.toNatClampNeg = x.toInt.toNat := rfl
    omega
theorem ab_inb_snd (hG : ab_G cls dA xa ks ws rv sv h) {i : Nat} {mn : Int} {f : ab_L} (hi : ab_inb h i mn f = true) {x : Int32} (hx : ab_ev rv f = some x.toInt) {q : Nat × Nat} {cA : ClassId} {nn : Nat} {ct9 : (Nat → Int32) ⊕ ((Nat → Int64) ⊕ ((Nat → UInt32) ⊕ ((Nat → UInt64) ⊕ (Nat → Option Nat))))} (hq : sv[i]? = some q) (hw : ws[q.1]? = some (q.2, .inl (cA, nn, ct9))) (hmn : mn ≤ (nn : Int)) : 0 ≤ x.toInt ∧ x.toInt < (nn : Int) := by
  unfold ab_inb at hi
  split at hi
  · rename_i pp hpp
    have b9 := ab_bd_in hG.1 hpp hx
    rw [Bool.and_eq_true, Bool.or_eq_true, decide_eq_true_eq, decide_eq_true_eq] at hi
    refine ⟨by omega, ?_⟩
    rcases hi.2 with h9 | h9
    · omega
    · split at h9
      · rename_i g hg
        split at h9
        · rename_i d hd
          rw [decide_eq_true_eq] at h9
          obtain ⟨qf, ef, ii, vf, f1, f2, f3, f4, f5⟩ := hG.2.2.2.1 _ (ab_ff_in hg)
          have f1' : sv[i]? = some qf := f1
          rw [hq] at f1'
          cases f1'
          rw [hw] at f2
          cases f2
          have f4' : (if nn < 2147483648 then some (Value.int (Int32.ofNat nn)) else none) = some vf := f4
          by_cases hlt : nn < 2147483648
          · rw [if_pos hlt] at f4'
            cases f4'
            obtain ⟨y9, e8, hy9⟩ := f5
            cases e8
            have d9 := ab_dl_in hG.1 hG.2.1 hy9 hx hd
            have e7 : (Int32.ofNat nn).toInt = (nn : Int) := nI_toInt (n := nn) (by omega)
            omega
          · rw [if_neg hlt] at f4'; cases f4'
        · cases h9
      · cases h9
  · cases hi
end AY
