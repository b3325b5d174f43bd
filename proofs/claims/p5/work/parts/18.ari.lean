/-! ===== sums, differences, products, bits ===== -/
/-- a form that is worth the number, if it is an int for sure -/
def ab_try {β : Type} (h : ab_H) (id : Nat) (mul off : Int) (k : ab_H → ab_L → Option β) (els : Option β) : Option β := ab_g mul fun mul => ab_g off fun off => match ab_bd h.1 (id, mul, off) with
  | some q => bif ab_in32 q then k h (id, mul, off) else els
  | none => els
/-- the first difference that is known: name a at least name b plus this -/
def ab_rk : List (Nat × Nat × Int) → Nat → Nat → Option Int
  | [], _, _ => none
  | r :: l, a, b => bif Nat.beq r.1 a && Nat.beq r.2.1 b then some r.2.2 else ab_rk l a b
def ab_max (a b : Int) : Int := bif decide (a ≤ b) then b else a
def ab_min (a b : Int) : Int := bif decide (a ≤ b) then a else b
theorem ab_max_le {a b x : Int} (h1 : a ≤ x) (h2 : b ≤ x) : ab_max a b ≤ x := by
  unfold ab_max
  cases decide (a ≤ b) <;> assumption
theorem ab_le_min {a b x : Int} (h1 : x ≤ a) (h2 : x ≤ b) : x ≤ ab_min a b := by
  unfold ab_min
  cases decide (a ≤ b) <;> assumption
/-- a lower end of f - g -/
def ab_dl (h : ab_H) (f g : ab_L) : Option Int := match ab_bd h.1 f, ab_bd h.1 g with
  | some p, some q => bif decide (f.2.1 = g.2.1) && decide (0 < g.2.1) then (match ab_rk h.2.1 f.1 g.1 with
      | some r => some (ab_max (p.1 - q.2) (g.2.1 * r + f.2.2 - g.2.2))
      | none => bif Nat.beq f.1 g.1 then some (f.2.2 - g.2.2) else some (p.1 - q.2))
    else some (p.1 - q.2)
  | _, _ => none
def ab_add {β : Type} (h : ab_H) (f g : ab_L) (k : ab_H → ab_L → Option β) : Option β :=
  let els := match ab_bd h.1 f, ab_bd h.1 g with
    | some p, some q => bif ab_in32 (p.1 + q.1, p.2 + q.2) then ab_fr h (p.1 + q.1) (p.2 + q.2) k else ab_any h k
    | _, _ => ab_any h k
  bif decide (g.2.1 = 0) then ab_try h f.1 f.2.1 (f.2.2 + g.2.2) k els else bif decide (f.2.1 = 0) then ab_try h g.1 g.2.1 (f.2.2 + g.2.2) k els
  else bif Nat.beq f.1 g.1 then ab_try h f.1 (f.2.1 + g.2.1) (f.2.2 + g.2.2) k els else els
def ab_sub {β : Type} (h : ab_H) (f g : ab_L) (k : ab_H → ab_L → Option β) : Option β :=
  let els := match ab_dl h f g, ab_dl h g f with
    | some p, some q => bif ab_in32 (p, 0 - q) then ab_fr h p (0 - q) k else ab_any h k
    | _, _ => ab_any h k
  bif decide (g.2.1 = 0) then ab_try h f.1 f.2.1 (f.2.2 - g.2.2) k (ab_try h f.1 f.2.1 (f.2.2 - g.2.2 + 4294967296) k els)
  else bif decide (0 < f.2.1) && (decide (0 < g.2.1) && Nat.beq f.1 g.1) then ab_try h f.1 (f.2.1 - g.2.1) (f.2.2 - g.2.2) k els else els
def ab_mul {β : Type} (h : ab_H) (f g : ab_L) (k : ab_H → ab_L → Option β) : Option β :=
  let els := match ab_bd h.1 f, ab_bd h.1 g with
    | some p, some q => bif decide (0 ≤ p.1) && (decide (0 ≤ q.1) && decide (p.2 * q.2 ≤ 2147483647)) then ab_fr h (p.1 * q.1) (p.2 * q.2) k else ab_any h k
    | _, _ => ab_any h k
  bif decide (g.2.1 = 0) then ab_try h f.1 (f.2.1 * g.2.2) (f.2.2 * g.2.2) k els else bif decide (f.2.1 = 0) then ab_try h g.1 (g.2.1 * f.2.2) (g.2.2 * f.2.2) k els else els
section AR
variable {cls : Nat → List ab_Cl} {dA : Nat → ClassId} {xa : List Nat} {ks : List Nat} {ws : va_W} {rv : List Int} {sv : List (Nat × Nat)} {h : ab_H} {f g : ab_L} {k : ab_H → ab_L → Option (List ab_S)} {L : List ab_S} {x y : Int32}
theorem ab_ev0 {f : ab_L} (h0 : f.2.1 = 0) : ab_ev rv f = some f.2.2 := by unfold ab_ev; rw [if_pos h0]
theorem ab_ev1 {f : ab_L} {z : Int} (h0 : ¬ f.2.1 = 0) (hx : ab_ev rv f = some z) : ∃ w, rv[f.1]? = some w ∧ z = f.2.1 * w + f.2.2 := by
  unfold ab_ev at hx
  rw [if_neg h0] at hx
  cases hw : rv[f.1]? with
  | none => rw [hw] at hx; cases hx
  | some w => rw [hw] at hx; cases hx; exact ⟨w, rfl, rfl⟩
theorem ab_evc {id : Nat} {mul off w : Int} (hw : mul = 0 ∨ rv[id]? = some w) : ab_ev rv (id, mul, off) = some (mul * w + off) := by
  unfold ab_ev
  by_cases h0 : mul = 0
  · rw [if_pos h0, h0, Int.zero_mul, Int.zero_add]
  · rw [if_neg h0]
    rcases hw with hw | hw
    · exact absurd hw h0
    · rw [hw]; rfl
theorem ab_gets_try (hG : ab_G cls dA xa ks ws rv sv h) {id : Nat} {mul off : Int} {els : Option (List ab_S)} (hk : ab_try h id mul off k els = some L) {z : Int32} {t : Int} (hev : ab_ev rv (id, mul, off) = some t) (hz : -2147483648 ≤ t → t ≤ 2147483647 → z.toInt = t) (hels : els = some L → ab_gets cls dA xa ks ws rv sv L k z.toInt) : ab_gets cls dA xa ks ws rv sv L k z.toInt := by
  unfold ab_try at hk
  simp only [ab_g_eq] at hk
  split at hk
  · rename_i q hq
    cases hi : ab_in32 q with
    | false => rw [ee_cf hi] at hk; exact hels hk
    | true =>
      rw [ee_ct hi] at hk
      obtain ⟨b1, b2⟩ := ab_bd_in hG.1 hq hev
      obtain ⟨c1, c2⟩ := ab_in32_spec hi
      rw [hz (by omega) (by omega)]
      exact ab_gets_id hG hk hev
  · exact hels hk
theorem ab_add_snd (hG : ab_G cls dA xa ks ws rv sv h) (hx : ab_ev rv f = some x.toInt) (hy : ab_ev rv g = some y.toInt) (hk : ab_add h f g k = some L) : ab_gets cls dA xa ks ws rv sv L k (x + y).toInt := by
  unfold ab_add at hk
  dsimp only at hk
  have hels : (match ab_bd h.1 f, ab_bd h.1 g with
    | some p, some q => bif ab_in32 (p.1 + q.1, p.2 + q.2) then ab_fr h (p.1 + q.1) (p.2 + q.2) k else ab_any h k
    | _, _ => ab_any h k) = some L → ab_gets cls dA xa ks ws rv sv L k (x + y).toInt := by
    intro hk
    split at hk
    · rename_i p q hp hq
      have bp := ab_bd_in hG.1 hp hx
      have bq := ab_bd_in hG.1 hq hy
      cases hi : ab_in32 (p.1 + q.1, p.2 + q.2) with
      | false => rw [ee_cf hi] at hk; exact ab_gets_any hG hk
      | true =>
        rw [ee_ct hi] at hk
        obtain ⟨c1, c2⟩ := ab_in32_spec hi
        dsimp only at c1 c2
        rw [ab_tadd (by omega) (by omega)]
        exact ab_gets_fr hG hk (by omega) (by omega)
    · exact ab_gets_any hG hk
  by_cases hg0 : g.2.1 = 0
  · rw [ee_ct (by simpa using hg0)] at hk
    rw [ab_ev0 hg0] at hy
    have hy' := Option.some.inj hy
    refine ab_gets_try hG hk (t := x.toInt + y.toInt) ?_ (fun a b => ab_tadd a b) hels
    by_cases hf0 : f.2.1 = 0
    · rw [ab_ev0 hf0] at hx
      have hx' := Option.some.inj hx
      rw [ab_ev0 (f := (f.1, f.2.1, f.2.2 + g.2.2)) hf0]
      dsimp only
      rw [hx', hy']
    · obtain ⟨w, w1, w2⟩ := ab_ev1 hf0 hx
      rw [ab_evc (Or.inr w1), w2, ← hy']
      congr 1; omega
  · rw [ee_cf (by simpa using hg0)] at hk
    obtain ⟨w, w1, w2⟩ := ab_ev1 hg0 hy
    by_cases hf0 : f.2.1 = 0
    · rw [ee_ct (by simpa using hf0)] at hk
      rw [ab_ev0 hf0] at hx
      have hx' := Option.some.inj hx
      refine ab_gets_try hG hk (t := x.toInt + y.toInt) ?_ (fun a b => ab_tadd a b) hels
      rw [ab_evc (Or.inr w1), w2, ← hx']
      congr 1; omega
    · rw [ee_cf (by simpa using hf0)] at hk
      obtain ⟨u, u1, u2⟩ := ab_ev1 hf0 hx
      cases hid : Nat.beq f.1 g.1 with
      | false => rw [ee_cf hid] at hk; exact hels hk
      | true =>
        rw [ee_ct hid] at hk
        have e1 : f.1 = g.1 := Nat.eq_of_beq_eq_true hid
        rw [e1, w1] at u1
        cases u1
        refine ab_gets_try hG hk (t := x.toInt + y.toInt) ?_ (fun a b => ab_tadd a b) hels
        rw [ab_evc (w := w) (Or.inr (by rw [e1]; exact w1)), u2, w2]
        congr 1
        rw [Int.add_mul]; omega
theorem ab_rk_in {rl : List (Nat × Nat × Int)} (hR : ab_Rl rv rl) {a b : Nat} {r : Int} (hr : ab_rk rl a b = some r) : ∃ x y, rv[a]? = some x ∧ rv[b]? = some y ∧ y + r ≤ x := by
  induction rl with
  | nil => cases hr
  | cons q l ih =>
    unfold ab_rk at hr
    cases hc : (Nat.beq q.1 a && Nat.beq q.2.1 b) with
    | false => rw [ee_cf hc] at hr; exact ih (fun z hz => hR z (List.mem_cons_of_mem _ hz)) hr
    | true =>
      rw [ee_ct hc] at hr
      cases hr
      rw [Bool.and_eq_true] at hc
      have e1 : q.1 = a := Nat.eq_of_beq_eq_true hc.1
      have e2 : q.2.1 = b := Nat.eq_of_beq_eq_true hc.2
      obtain ⟨x, y, g1, g2, g3⟩ := hR q List.mem_cons_self
      exact ⟨x, y, by rw [← e1]; exact g1, by rw [← e2]; exact g2, g3⟩
theorem ab_dl_in (hI : ab_I rv h.1) (hR : ab_Rl rv h.2.1) {a b d : Int} (hx : ab_ev rv f = some a) (hy : ab_ev rv g = some b) (hd : ab_dl h f g = some d) : d ≤ a - b := by
  unfold ab_dl at hd
  split at hd
  · rename_i p q hp hq
    have bp := ab_bd_in hI hp hx
    have bq := ab_bd_in hI hq hy
    cases hc : (decide (f.2.1 = g.2.1) && decide (0 < g.2.1)) with
    | false => rw [ee_cf hc] at hd; cases hd; omega
    | true =>
      rw [ee_ct hc] at hd
      rw [Bool.and_eq_true, decide_eq_true_eq, decide_eq_true_eq] at hc
      obtain ⟨u, u1, u2⟩ := ab_ev1 (by rw [hc.1]; omega) hx
      obtain ⟨w, w1, w2⟩ := ab_ev1 (by omega) hy
      rw [hc.1] at u2
      split at hd
      · rename_i r hr
        cases hd
        obtain ⟨x9, y9, g1, g2, g3⟩ := ab_rk_in hR hr
        rw [u1] at g1; cases g1
        rw [w1] at g2; cases g2
        have h9 : g.2.1 * (w + r) ≤ g.2.1 * u := Int.mul_le_mul_of_nonneg_left g3 (by omega)
        rw [Int.mul_add] at h9
        exact ab_max_le (by omega) (by omega)
      · cases hid : Nat.beq f.1 g.1 with
        | false => rw [ee_cf hid] at hd; cases hd; omega
        | true =>
          rw [ee_ct hid] at hd
          have e1 : f.1 = g.1 := Nat.eq_of_beq_eq_true hid
          rw [e1, w1] at u1
          cases u1
          cases hd
          omega
  · cases hd
theorem ab_sub_snd (hG : ab_G cls dA xa ks ws rv sv h) (hx : ab_ev rv f = some x.toInt) (hy : ab_ev rv g = some y.toInt) (hk : ab_sub h f g k = some L) : ab_gets cls dA xa ks ws rv sv L k (x - y).toInt := by
  unfold ab_sub at hk
  dsimp only at hk
  have hels : (match ab_dl h f g, ab_dl h g f with
    | some p, some q => bif ab_in32 (p, 0 - q) then ab_fr h p (0 - q) k else ab_any h k
    | _, _ => ab_any h k) = some L → ab_gets cls dA xa ks ws rv sv L k (x - y).toInt := by
    intro hk
    split at hk
    · rename_i p q hp hq
      have bp := ab_dl_in hG.1 hG.2.1 hx hy hp
      have bq := ab_dl_in hG.1 hG.2.1 hy hx hq
      cases hi : ab_in32 (p, 0 - q) with
      | false => rw [ee_cf hi] at hk; exact ab_gets_any hG hk
      | true =>
        rw [ee_ct hi] at hk
        obtain ⟨c1, c2⟩ := ab_in32_spec hi
        dsimp only at c1 c2
        rw [ab_tsub (by omega) (by omega)]
        exact ab_gets_fr hG hk (by omega) (by omega)
    · exact ab_gets_any hG hk
  by_cases hg0 : g.2.1 = 0
  · rw [ee_ct (by simpa using hg0)] at hk
    rw [ab_ev0 hg0] at hy
    have hy' := Option.some.inj hy
    have hev : ∀ c9 : Int, ab_ev rv (f.1, f.2.1, f.2.2 - g.2.2 + c9) = some (x.toInt - y.toInt + c9) := by
      intro c9
      by_cases hf0 : f.2.1 = 0
      · rw [ab_ev0 hf0] at hx
        have hx' := Option.some.inj hx
        rw [ab_ev0 (f := (f.1, f.2.1, f.2.2 - g.2.2 + c9)) hf0]
        dsimp only
        rw [hx', hy']
      · obtain ⟨w, w1, w2⟩ := ab_ev1 hf0 hx
        rw [ab_evc (Or.inr w1), w2, ← hy']
        congr 1; omega
    refine ab_gets_try hG hk (t := x.toInt - y.toInt) ?_ (fun a b => ab_tsub a b) (fun hk2 => ab_gets_try hG hk2 (t := x.toInt - y.toInt + 4294967296) (hev 4294967296) (fun a b => ?_) hels)
    · have h9 := hev 0
      rw [Int.add_zero, Int.add_zero] at h9
      exact h9
    · rw [Int32.toInt_sub]
      show Int.bmod (x.toInt - y.toInt) 4294967296 = _
      unfold Int.bmod
      dsimp only
      split <;> omega
  · rw [ee_cf (by simpa using hg0)] at hk
    cases hc : (decide (0 < f.2.1) && (decide (0 < g.2.1) && Nat.beq f.1 g.1)) with
    | false => rw [ee_cf hc] at hk; exact hels hk
    | true =>
      rw [ee_ct hc] at hk
      rw [Bool.and_eq_true, Bool.and_eq_true, decide_eq_true_eq, decide_eq_true_eq] at hc
      have e1 : f.1 = g.1 := Nat.eq_of_beq_eq_true hc.2.2
      obtain ⟨u, u1, u2⟩ := ab_ev1 (by omega) hx
      obtain ⟨w, w1, w2⟩ := ab_ev1 (by omega) hy
      rw [e1, w1] at u1
      cases u1
      refine ab_gets_try hG hk (t := x.toInt - y.toInt) ?_ (fun a b => ab_tsub a b) hels
      rw [ab_evc (w := u) (Or.inr (by rw [e1]; exact w1)), u2, w2]
      congr 1
      rw [Int.sub_mul]; omega
theorem ab_mul_snd (hG : ab_G cls dA xa ks ws rv sv h) (hx : ab_ev rv f = some x.toInt) (hy : ab_ev rv g = some y.toInt) (hk : ab_mul h f g k = some L) : ab_gets cls dA xa ks ws rv sv L k (x * y).toInt := by
  unfold ab_mul at hk
  dsimp only at hk
  have hels : (match ab_bd h.1 f, ab_bd h.1 g with
    | some p, some q => bif decide (0 ≤ p.1) && (decide (0 ≤ q.1) && decide (p.2 * q.2 ≤ 2147483647)) then ab_fr h (p.1 * q.1) (p.2 * q.2) k else ab_any h k
    | _, _ => ab_any h k) = some L → ab_gets cls dA xa ks ws rv sv L k (x * y).toInt := by
    intro hk
    split at hk
    · rename_i p q hp hq
      have bp := ab_bd_in hG.1 hp hx
      have bq := ab_bd_in hG.1 hq hy
      cases hi : (decide (0 ≤ p.1) && (decide (0 ≤ q.1) && decide (p.2 * q.2 ≤ 2147483647))) with
      | false => rw [ee_cf hi] at hk; exact ab_gets_any hG hk
      | true =>
        rw [ee_ct hi] at hk
        rw [Bool.and_eq_true, Bool.and_eq_true, decide_eq_true_eq, decide_eq_true_eq, decide_eq_true_eq] at hi
        have m1 : p.1 * q.1 ≤ x.toInt * y.toInt := Int.mul_le_mul bp.1 bq.1 hi.2.1 (by omega)
        have m2 : x.toInt * y.toInt ≤ p.2 * q.2 := Int.mul_le_mul bp.2 bq.2 (by omega) (by omega)
        have m3 : 0 ≤ p.1 * q.1 := Int.mul_nonneg hi.1 hi.2.1
        rw [ab_tmul (by omega) (by omega)]
        exact ab_gets_fr hG hk m1 m2
    · exact ab_gets_any hG hk
  by_cases hg0 : g.2.1 = 0
  · rw [ee_ct (by simpa using hg0)] at hk
    rw [ab_ev0 hg0] at hy
    have hy' := Option.some.inj hy
    refine ab_gets_try hG hk (t := x.toInt * y.toInt) ?_ (fun a b => ab_tmul a b) hels
    by_cases hf0 : f.2.1 = 0
    · rw [ab_ev0 hf0] at hx
      have hx' := Option.some.inj hx
      rw [ab_ev0 (f := (f.1, f.2.1 * g.2.2, f.2.2 * g.2.2)) (by dsimp only; rw [hf0, Int.zero_mul])]
      dsimp only
      rw [hx', hy']
    · obtain ⟨w, w1, w2⟩ := ab_ev1 hf0 hx
      rw [ab_evc (Or.inr w1), w2, ← hy', Int.add_mul, Int.mul_assoc, Int.mul_comm g.2.2 w, ← Int.mul_assoc]
  · rw [ee_cf (by simpa using hg0)] at hk
    obtain ⟨w, w1, w2⟩ := ab_ev1 hg0 hy
    by_cases hf0 : f.2.1 = 0
    · rw [ee_ct (by simpa using hf0)] at hk
      rw [ab_ev0 hf0] at hx
      have hx' := Option.some.inj hx
      refine ab_gets_try hG hk (t := x.toInt * y.toInt) ?_ (fun a b => ab_tmul a b) hels
      rw [ab_evc (Or.inr w1), w2, ← hx', Int.mul_add, Int.mul_assoc, Int.mul_comm f.2.2 w, ← Int.mul_assoc, Int.mul_comm f.2.2 (g.2.1 * w), Int.mul_comm f.2.2 g.2.2]
    · rw [ee_cf (by simpa using hf0)] at hk
      exact hels hk
end AR
