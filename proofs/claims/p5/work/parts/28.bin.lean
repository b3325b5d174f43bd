/-! ===== two numbers and what comes of them ===== -/
def ab_bn13 {β : Type} (h : ab_H) (f g : ab_L) (p q : Int × Int) (k : ab_H → ab_L → Option β) : Option β :=
  bif decide (0 ≤ q.1) then (bif decide (0 ≤ p.1) then ab_fr h 0 (ab_min p.2 q.2) (fun h' r => ab_arl h' f r 0 fun h2 => ab_arl h2 g r 0 fun h3 => k h3 r) else ab_fr h 0 q.2 (fun h' r => ab_arl h' g r 0 fun h2 => k h2 r))
  else bif decide (0 ≤ p.1) then ab_fr h 0 p.2 (fun h' r => ab_arl h' f r 0 fun h2 => k h2 r) else ab_any h k
def ab_bn14 {β : Type} (h : ab_H) (f g : ab_L) (p q : Int × Int) (k : ab_H → ab_L → Option β) : Option β :=
  bif decide (0 ≤ q.1) && (decide (0 ≤ p.1) && decide (ab_max p.2 q.2 ≤ 2147483647)) then ab_fr h (ab_max p.1 q.1) (ab_up (ab_max p.2 q.2)) (fun h' r => ab_arl h' r f 0 fun h2 => ab_arl h2 r g 0 fun h3 => k h3 r) else ab_any h k
def ab_bn16 {β : Type} (h : ab_H) (p q : Int × Int) (k : ab_H → ab_L → Option β) : Option β :=
  bif decide (0 ≤ q.1) && (decide (q.2 ≤ 31) && decide (0 ≤ p.1)) then (ab_g (p.1 * ((Nat.pow (nat_lit 2) q.1.toNat : Nat) : Int)) fun lo => ab_g (p.2 * ((Nat.pow (nat_lit 2) q.2.toNat : Nat) : Int)) fun hi => bif decide (hi ≤ 2147483647) then ab_fr h lo hi k else ab_any h k) else ab_any h k
def ab_bn17 {β : Type} (h : ab_H) (g : ab_L) (p : Int × Int) (k : ab_H → ab_L → Option β) : Option β :=
  bif decide (g.2.1 = 0) then (ee_f (Nat.pow (nat_lit 2) (ab_sh (Int32.ofInt g.2.2))) fun d => ab_fr h (p.1 / (d : Int)) (p.2 / (d : Int)) k) else bif decide (0 ≤ p.1) then ab_fr h 0 p.2 k else ab_any h k
def ab_bn18 {β : Type} (h : ab_H) (g : ab_L) (p : Int × Int) (k : ab_H → ab_L → Option β) : Option β :=
  bif decide (g.2.1 = 0) then (ee_f (Nat.pow (nat_lit 2) (ab_us (Int32.ofInt g.2.2))) fun d => bif decide (0 ≤ p.1) && decide (p.2 ≤ 2147483647) then ab_fr h (p.1 / (d : Int)) (p.2 / (d : Int)) k else bif Nat.ble (nat_lit 2) d then ab_fr h 0 ((Nat.div (nat_lit 4294967295) d : Nat) : Int) k else ab_any h k) else ab_any h k
def ab_bn19 {β : Type} (h : ab_H) (f g : ab_L) (p q : Int × Int) (k : ab_H → ab_L → Option β) : Option β :=
  bif decide (0 < q.1) then (bif decide (0 ≤ p.1) then (bif decide (g.2.1 = 0) && (decide (f.2.1 / g.2.2 * g.2.2 = f.2.1) && decide (f.2.2 / g.2.2 * g.2.2 = f.2.2)) then ab_try h f.1 (f.2.1 / g.2.2) (f.2.2 / g.2.2) k (ab_fr h (p.1 / q.2) (p.2 / q.1) k) else ab_fr h (p.1 / q.2) (p.2 / q.1) k) else bif decide (g.2.1 = 0) && (decide (0 - g.2.2 < p.1) && decide (0 ≤ p.2)) then ab_fr h 0 (p.2 / g.2.2) k else ab_any h k) else none
def ab_bn20 {β : Type} (h : ab_H) (f : ab_L) (p q : Int × Int) (k : ab_H → ab_L → Option β) : Option β :=
  bif decide (0 < q.1) then (bif decide (0 ≤ p.1) then (bif decide (p.2 < q.1) then k h f else ab_fr h 0 (ab_min p.2 (q.2 - 1)) k) else ab_any h k) else none
section BN
variable {cls : Nat → List ab_Cl} {dA : Nat → ClassId} {xa : List Nat} {ks : List Nat} {ws : va_W} {rv : List Int} {sv : List (Nat × Nat)} {h : ab_H} {f g : ab_L} {k : ab_H → ab_L → Option (List ab_S)} {L : List ab_S} {x y : Int32} {p q : Int × Int}
theorem ab_gets_fr2 (hG : ab_G cls dA xa ks ws rv sv h) {lo hi z : Int} {k' : ab_H → ab_L → Option (List ab_S)} (hk : ab_fr h lo hi k' = some L) (h1 : lo ≤ z) (h2 : z ≤ hi)
    (hstep : ∀ (h' : ab_H) (r : ab_L) (rv' : List Int), rv <+: rv' → ab_G cls dA xa ks ws rv' sv h' → ab_ev rv' r = some z → k' h' r = some L → ∃ h3, ab_G cls dA xa ks ws rv' sv h3 ∧ k h3 r = some L) : ab_gets cls dA xa ks ws rv sv L k z := by
  have hk := ab_fr_snd hk
  obtain ⟨g1, g2⟩ := ab_G_new hG h1 h2
  obtain ⟨h3, g3, g4⟩ := hstep _ _ _ (List.prefix_append rv [z]) g1 g2 hk
  exact ⟨h3, _, rv ++ [z], List.prefix_append rv [z], g3, g2, g4⟩
theorem ab_and_sym (x y : Int32) : x &&& y = y &&& x := by
  apply Int32.toBitVec_inj.mp
  rw [Int32.toBitVec_and, Int32.toBitVec_and, BitVec.and_comm]
theorem ab_bn13_snd (hG : ab_G cls dA xa ks ws rv sv h) (hx : ab_ev rv f = some x.toInt) (hy : ab_ev rv g = some y.toInt) (hp : p.1 ≤ x.toInt ∧ x.toInt ≤ p.2) (hq : q.1 ≤ y.toInt ∧ y.toInt ≤ q.2) (hk : ab_bn13 h f g p q k = some L) : ab_gets cls dA xa ks ws rv sv L k (x &&& y).toInt := by
  unfold ab_bn13 at hk
  by_cases c1 : 0 ≤ q.1
  · rw [ee_ct (by simpa using c1)] at hk
    have a1 := ab_and_le x y (by omega)
    by_cases c2 : 0 ≤ p.1
    · rw [ee_ct (by simpa using c2)] at hk
      have a2 := ab_and_le y x (by omega)
      rw [ab_and_sym] at a2
      refine ab_gets_fr2 hG hk a1.1 (ab_le_min (by omega) (by omega)) (fun h' r rv' hp' g1 e1 hk' => ?_)
      try dsimp only at hk'
      obtain ⟨h2, g2, e2⟩ := ab_arl_snd (k := fun h2 => ab_arl h2 g r 0 fun h3 => k h3 r) g1 (ab_ev_mono hp' hx) e1 (d := 0) (by omega)
      rw [e2] at hk'
      try dsimp only at hk'
      obtain ⟨h3, g3, e3⟩ := ab_arl_snd (k := fun h3 => k h3 r) g2 (ab_ev_mono hp' hy) e1 (d := 0) (by omega)
      rw [e3] at hk'
      exact ⟨h3, g3, hk'⟩
    · rw [ee_cf (by simpa using c2)] at hk
      refine ab_gets_fr2 hG hk a1.1 (by omega) (fun h' r rv' hp' g1 e1 hk' => ?_)
      try dsimp only at hk'
      obtain ⟨h2, g2, e2⟩ := ab_arl_snd (k := fun h2 => k h2 r) g1 (ab_ev_mono hp' hy) e1 (d := 0) (by omega)
      rw [e2] at hk'
      exact ⟨h2, g2, hk'⟩
  · rw [ee_cf (by simpa using c1)] at hk
    by_cases c2 : 0 ≤ p.1
    · rw [ee_ct (by simpa using c2)] at hk
      have a2 := ab_and_le y x (by omega)
      rw [ab_and_sym] at a2
      refine ab_gets_fr2 hG hk a2.1 (by omega) (fun h' r rv' hp' g1 e1 hk' => ?_)
      try dsimp only at hk'
      obtain ⟨h2, g2, e2⟩ := ab_arl_snd (k := fun h2 => k h2 r) g1 (ab_ev_mono hp' hx) e1 (d := 0) (by omega)
      rw [e2] at hk'
      exact ⟨h2, g2, hk'⟩
    · rw [ee_cf (by simpa using c2)] at hk
      exact ab_gets_any hG hk
theorem ab_le_max (a b : Int) : a ≤ ab_max a b ∧ b ≤ ab_max a b := by
  unfold ab_max
  by_cases c1 : a ≤ b
  · rw [ee_ct (by simpa using c1)]; omega
  · rw [ee_cf (by simpa using c1)]; omega
theorem ab_bn14_snd (hG : ab_G cls dA xa ks ws rv sv h) (hx : ab_ev rv f = some x.toInt) (hy : ab_ev rv g = some y.toInt) (hp : p.1 ≤ x.toInt ∧ x.toInt ≤ p.2) (hq : q.1 ≤ y.toInt ∧ y.toInt ≤ q.2) (hk : ab_bn14 h f g p q k = some L) : ab_gets cls dA xa ks ws rv sv L k (x ||| y).toInt := by
  unfold ab_bn14 at hk
  cases hc : (decide (0 ≤ q.1) && (decide (0 ≤ p.1) && decide (ab_max p.2 q.2 ≤ 2147483647))) with
  | false => rw [ee_cf hc] at hk; exact ab_gets_any hG hk
  | true =>
    rw [ee_ct hc] at hk
    rw [Bool.and_eq_true, Bool.and_eq_true, decide_eq_true_eq, decide_eq_true_eq, decide_eq_true_eq] at hc
    obtain ⟨o1, o2, o3⟩ := ab_or_le x y (by omega) (by omega)
    obtain ⟨kk, k1, k2⟩ := ab_up_spec hc.2.2
    have m1 := ab_le_max p.2 q.2
    have o4 := o3 kk (by omega) (by omega)
    refine ab_gets_fr2 hG hk (ab_max_le (by omega) (by omega)) (by omega) (fun h' r rv' hp' g1 e1 hk' => ?_)
    try dsimp only at hk'
    obtain ⟨h2, g2, e2⟩ := ab_arl_snd (k := fun h2 => ab_arl h2 r g 0 fun h3 => k h3 r) g1 e1 (ab_ev_mono hp' hx) (d := 0) (by omega)
    rw [e2] at hk'
    try dsimp only at hk'
    obtain ⟨h3, g3, e3⟩ := ab_arl_snd (k := fun h3 => k h3 r) g2 e1 (ab_ev_mono hp' hy) (d := 0) (by omega)
    rw [e3] at hk'
    exact ⟨h3, g3, hk'⟩
theorem ab_bn16_snd (hG : ab_G cls dA xa ks ws rv sv h) (hp : p.1 ≤ x.toInt ∧ x.toInt ≤ p.2) (hq : q.1 ≤ y.toInt ∧ y.toInt ≤ q.2) (hk : ab_bn16 h p q k = some L) : ab_gets cls dA xa ks ws rv sv L k (x <<< (y &&& 31)).toInt := by
  unfold ab_bn16 at hk
  cases hc : (decide (0 ≤ q.1) && (decide (q.2 ≤ 31) && decide (0 ≤ p.1))) with
  | false => rw [ee_cf hc] at hk; exact ab_gets_any hG hk
  | true =>
    rw [ee_ct hc] at hk
    simp only [ab_g_eq] at hk
    rw [Bool.and_eq_true, Bool.and_eq_true, decide_eq_true_eq, decide_eq_true_eq, decide_eq_true_eq] at hc
    cases hd : decide (p.2 * ((Nat.pow (nat_lit 2) q.2.toNat : Nat) : Int) ≤ 2147483647) with
    | false => rw [ee_cf hd] at hk; exact ab_gets_any hG hk
    | true =>
      rw [ee_ct hd] at hk
      rw [decide_eq_true_eq] at hd
      obtain ⟨a, ha, ea, ta⟩ := ab_nat_of x (by omega)
      obtain ⟨b, hb, eb, tb⟩ := ab_nat_of y (by omega)
      have hb32 : b < 32 := by omega
      have e1 : ab_sh y = b := by rw [eb]; exact ab_sh_of ⟨b, hb32⟩
      have m1 : 2 ^ q.1.toNat ≤ 2 ^ b := Nat.pow_le_pow_right (by decide) (by omega)
      have m2 : 2 ^ b ≤ 2 ^ q.2.toNat := Nat.pow_le_pow_right (by decide) (by omega)
      have m1' : ((2 ^ q.1.toNat : Nat) : Int) ≤ ((2 ^ b : Nat) : Int) := Int.ofNat_le.mpr m1
      have m2' : ((2 ^ b : Nat) : Int) ≤ ((2 ^ q.2.toNat : Nat) : Int) := Int.ofNat_le.mpr m2
      have hz : (0 : Int) ≤ ((2 ^ q.1.toNat : Nat) : Int) := Int.natCast_nonneg _
      have hz2 : (0 : Int) ≤ ((2 ^ b : Nat) : Int) := Int.natCast_nonneg _
      have l1 : p.1 * ((2 ^ q.1.toNat : Nat) : Int) ≤ (a : Int) * ((2 ^ b : Nat) : Int) := Int.mul_le_mul (by omega) m1' hz (by omega)
      have l2 : (a : Int) * ((2 ^ b : Nat) : Int) ≤ p.2 * ((2 ^ q.2.toNat : Nat) : Int) := Int.mul_le_mul (by omega) m2' hz2 (by omega)
      have hd' : p.2 * ((2 ^ q.2.toNat : Nat) : Int) ≤ 2147483647 := hd
      have e3 : ((a * 2 ^ b : Nat) : Int) = (a : Int) * ((2 ^ b : Nat) : Int) := Int.natCast_mul a (2 ^ b)
      have hlt : a * 2 ^ ab_sh y < 2147483648 := by rw [e1]; omega
      have e2 := ab_shl y hlt
      rw [e1] at e2
      rw [ea]
      rw [e2, e3]
      exact ab_gets_fr hG hk l1 l2
theorem ab_div_b {z w : Int} {d : Nat} (hd : 0 < d) (h1 : z ≤ w) : z / (d : Int) ≤ w / (d : Int) := Int.ediv_le_ediv (by omega) h1
theorem ab_cst (hc : g.2.1 = 0) (hy : ab_ev rv g = some y.toInt) : Int32.ofInt g.2.2 = y := by
  rw [ab_ev0 hc] at hy
  have hy' := Option.some.inj hy
  rw [hy', Int32.ofInt_toInt]
theorem ab_bn17_snd (hG : ab_G cls dA xa ks ws rv sv h) (hy : ab_ev rv g = some y.toInt) (hp : p.1 ≤ x.toInt ∧ x.toInt ≤ p.2) (hk : ab_bn17 h g p k = some L) : ab_gets cls dA xa ks ws rv sv L k (x >>> (y &&& 31)).toInt := by
  unfold ab_bn17 at hk
  rw [ab_shr]
  have hd : 0 < 2 ^ ab_sh y := Nat.two_pow_pos _
  by_cases c1 : g.2.1 = 0
  · rw [ee_ct (by simpa using c1), ee_f_eq, ab_cst c1 hy] at hk
    exact ab_gets_fr hG hk (ab_div_b hd hp.1) (ab_div_b hd hp.2)
  · rw [ee_cf (by simpa using c1)] at hk
    by_cases c2 : 0 ≤ p.1
    · rw [ee_ct (by simpa using c2)] at hk
      have d9 := ab_dm (x := x.toInt) (y := ((2 ^ ab_sh y : Nat) : Int)) (by omega) (by omega)
      exact ab_gets_fr hG hk d9.1 (by omega)
    · rw [ee_cf (by simpa using c2)] at hk
      rw [← ab_shr]
      exact ab_gets_any hG hk
theorem ab_bn18_snd (hG : ab_G cls dA xa ks ws rv sv h) (hy : ab_ev rv g = some y.toInt) (hp : p.1 ≤ x.toInt ∧ x.toInt ≤ p.2) (hk : ab_bn18 h g p k = some L) : ab_gets cls dA xa ks ws rv sv L k ((x.toUInt32 >>> (y.toUInt32 &&& Int32.toUInt32 31)).toInt32).toInt := by
  unfold ab_bn18 at hk
  have hd : 0 < 2 ^ ab_us y := Nat.two_pow_pos _
  by_cases c1 : g.2.1 = 0
  · rw [ee_ct (by simpa using c1), ee_f_eq, ab_cst c1 hy] at hk
    cases hc : (decide (0 ≤ p.1) && decide (p.2 ≤ 2147483647)) with
    | true =>
      rw [ee_ct hc] at hk
      rw [Bool.and_eq_true, decide_eq_true_eq, decide_eq_true_eq] at hc
      obtain ⟨a, ha, ea, ta⟩ := ab_nat_of x (by omega)
      have eu : x.toUInt32.toNat = a := by
        rw [ea]
        show a % 4294967296 = a
        omega
      have hle : a / 2 ^ ab_us y ≤ a := Nat.div_le_self _ _
      have e2 := ab_ushr x y (by rw [eu]; omega)
      rw [e2, eu]
      have e3 : ((a / 2 ^ ab_us y : Nat) : Int) = x.toInt / ((2 ^ ab_us y : Nat) : Int) := by rw [ta]; exact Int.natCast_ediv a _
      rw [e3]
      exact ab_gets_fr hG hk (ab_div_b hd hp.1) (ab_div_b hd hp.2)
    | false =>
      rw [ee_cf hc] at hk
      cases hb : Nat.ble (nat_lit 2) (Nat.pow (nat_lit 2) (ab_us y)) with
      | false => rw [ee_cf hb] at hk; exact ab_gets_any hG hk
      | true =>
        rw [ee_ct hb] at hk
        have hb' : 2 ≤ 2 ^ ab_us y := Nat.le_of_ble_eq_true hb
        have hu : x.toUInt32.toNat ≤ 4294967295 := by have := x.toUInt32.toNat_lt; omega
        have l1 : x.toUInt32.toNat / 2 ^ ab_us y ≤ 4294967295 / 2 ^ ab_us y := Nat.div_le_div_right hu
        have l2 : 4294967295 / 2 ^ ab_us y ≤ 4294967295 / 2 := Nat.div_le_div_left hb' (by decide)
        have e2 := ab_ushr x y (by omega)
        rw [e2]
        have l3 : ((x.toUInt32.toNat / 2 ^ ab_us y : Nat) : Int) ≤ ((4294967295 / 2 ^ ab_us y : Nat) : Int) := Int.ofNat_le.mpr l1
        exact ab_gets_fr hG hk (Int.natCast_nonneg _) l3
  · rw [ee_cf (by simpa using c1)] at hk
    exact ab_gets_any hG hk
theorem ab_bn19_snd (hG : ab_G cls dA xa ks ws rv sv h) (hx : ab_ev rv f = some x.toInt) (hy : ab_ev rv g = some y.toInt) (hp : p.1 ≤ x.toInt ∧ x.toInt ≤ p.2) (hq : q.1 ≤ y.toInt ∧ y.toInt ≤ q.2) (hk : ab_bn19 h f g p q k = some L) : 0 < y.toInt ∧ ab_gets cls dA xa ks ws rv sv L k (x / y).toInt := by
  unfold ab_bn19 at hk
  by_cases c1 : 0 < q.1
  · rw [ee_ct (by simpa using c1)] at hk
    have hy0 : 0 < y.toInt := by omega
    refine ⟨hy0, ?_⟩
    by_cases c2 : 0 ≤ p.1
    · rw [ee_ct (by simpa using c2)] at hk
      have e1 := ab_div x y (by omega) hy0
      have mn := ab_dmono (y := y.toInt) (z := q.1) (w := q.2) c2 hp.1 hp.2 c1 hq.1 hq.2
      have plain : ab_fr h (p.1 / q.2) (p.2 / q.1) k = some L → ab_gets cls dA xa ks ws rv sv L k (x / y).toInt := by
        intro hk
        rw [e1]
        exact ab_gets_fr hG hk mn.1 mn.2
      cases hc : (decide (g.2.1 = 0) && (decide (f.2.1 / g.2.2 * g.2.2 = f.2.1) && decide (f.2.2 / g.2.2 * g.2.2 = f.2.2))) with
      | false => rw [ee_cf hc] at hk; exact plain hk
      | true =>
        rw [ee_ct hc] at hk
        rw [Bool.and_eq_true, Bool.and_eq_true, decide_eq_true_eq, decide_eq_true_eq, decide_eq_true_eq] at hc
        obtain ⟨hc1, hc2, hc3⟩ := hc
        rw [ab_ev0 hc1] at hy
        have hy' : g.2.2 = y.toInt := Option.some.inj hy
        rw [hy'] at hk hc2 hc3
        have hev : ∃ t, ab_ev rv (f.1, f.2.1 / y.toInt, f.2.2 / y.toInt) = some t ∧ t * y.toInt = x.toInt := by
          by_cases h0 : f.2.1 = 0
          · rw [ab_ev0 h0] at hx
            have hx' : f.2.2 = x.toInt := Option.some.inj hx
            refine ⟨f.2.2 / y.toInt, ab_ev0 (f := (f.1, f.2.1 / y.toInt, f.2.2 / y.toInt)) ?_, by rw [hc3]; exact hx'⟩
            show f.2.1 / y.toInt = 0
            rw [h0]
            exact Int.zero_ediv _
          · obtain ⟨ww, w1, w2⟩ := ab_ev1 h0 hx
            refine ⟨f.2.1 / y.toInt * ww + f.2.2 / y.toInt, ab_evc (Or.inr w1), ?_⟩
            rw [Int.add_mul, hc3, w2, Int.mul_right_comm, hc2]
        obtain ⟨t, t1, t2⟩ := hev
        refine ab_gets_try hG hk t1 (fun _ _ => ?_) plain
        rw [e1, ← t2]
        exact Int.mul_ediv_cancel t (by omega)
    · rw [ee_cf (by simpa using c2)] at hk
      cases hc : (decide (g.2.1 = 0) && (decide (0 - g.2.2 < p.1) && decide (0 ≤ p.2))) with
      | false => rw [ee_cf hc] at hk; exact ab_gets_any hG hk
      | true =>
        rw [ee_ct hc] at hk
        rw [Bool.and_eq_true, Bool.and_eq_true, decide_eq_true_eq, decide_eq_true_eq, decide_eq_true_eq] at hc
        obtain ⟨hc1, hc2, hc3⟩ := hc
        rw [ab_ev0 hc1] at hy
        have hy' : g.2.2 = y.toInt := Option.some.inj hy
        rw [hy'] at hk hc2
        by_cases hx0 : 0 ≤ x.toInt
        · have e1 := ab_div x y hx0 hy0
          rw [e1]
          exact ab_gets_fr hG hk (Int.ediv_nonneg hx0 (by omega)) (Int.ediv_le_ediv hy0 hp.2)
        · have e1 : (x / y).toInt = 0 := by
            rw [Int32.toInt_div_of_ne_right x y (by
              rintro rfl
              have e9 : (-1 : Int32).toInt = -1 := by decide
              omega)]
            have e3 : x.toInt = -(-x.toInt) := by omega
            rw [e3, Int.neg_tdiv, Int.tdiv_eq_zero_of_lt (by omega) (by omega)]
            rfl
          rw [e1]
          exact ab_gets_fr hG hk (Int.le_refl 0) (Int.ediv_nonneg hc3 (by omega))
  · rw [ee_cf (by simpa using c1)] at hk; cases hk
theorem ab_bn20_snd (hG : ab_G cls dA xa ks ws rv sv h) (hx : ab_ev rv f = some x.toInt) (hp : p.1 ≤ x.toInt ∧ x.toInt ≤ p.2) (hq : q.1 ≤ y.toInt ∧ y.toInt ≤ q.2) (hk : ab_bn20 h f p q k = some L) : 0 < y.toInt ∧ ab_gets cls dA xa ks ws rv sv L k (x - x / y * y).toInt := by
  unfold ab_bn20 at hk
  by_cases c1 : 0 < q.1
  · rw [ee_ct (by simpa using c1)] at hk
    have hy0 : 0 < y.toInt := by omega
    refine ⟨hy0, ?_⟩
    by_cases c2 : 0 ≤ p.1
    · rw [ee_ct (by simpa using c2)] at hk
      have e1 := ab_rem x y (by omega) hy0
      obtain ⟨d1, d2, d3, d4, d5⟩ := ab_dm (x := x.toInt) (y := y.toInt) (by omega) hy0
      rw [e1]
      by_cases c3 : p.2 < q.1
      · rw [ee_ct (by simpa using c3)] at hk
        have hz : x.toInt / y.toInt = 0 := Int.ediv_eq_zero_of_lt (by omega) (by omega)
        rw [hz, Int.zero_mul, Int.sub_zero]
        exact ab_gets_id hG hk hx
      · rw [ee_cf (by simpa using c3)] at hk
        exact ab_gets_fr hG hk (by omega) (ab_le_min (by omega) (by omega))
    · rw [ee_cf (by simpa using c2)] at hk
      exact ab_gets_any hG hk
  · rw [ee_cf (by simpa using c1)] at hk; cases hk
end BN
