/-! ===== numbers of the engine ===== -/
theorem ee_f_eq {β : Type} (n : Nat) (k : Nat → β) : ee_f n k = k n := by cases n <;> rfl
theorem ee_zi (x : Int32) : (ee_z x : Int) = x.toInt + 2147483648 := by
  have h := Int32.le_toInt x
  unfold ee_z
  omega
theorem ee_zlt (x : Int32) : ee_z x < 4294967296 := by
  have h := Int32.toInt_lt x
  have h2 := ee_zi x
  omega
theorem ee_zinj {x y : Int32} (h : ee_z x = ee_z y) : x = y := by
  have h1 := ee_zi x
  have h2 := ee_zi y
  exact Int32.toInt_inj.mp (by omega)
theorem ee_zeq {x y : Int32} : x = y ↔ ee_z x = ee_z y := ⟨fun h => by rw [h], ee_zinj⟩
theorem ee_zltI {x y : Int32} : x < y ↔ ee_z x < ee_z y := by
  have h1 := ee_zi x
  have h2 := ee_zi y
  rw [Int32.lt_iff_toInt_lt]
  omega
theorem ee_zleI {x y : Int32} : x ≤ y ↔ ee_z x ≤ ee_z y := by
  have h1 := ee_zi x
  have h2 := ee_zi y
  rw [Int32.le_iff_toInt_le]
  omega
theorem ee_xz (x : Int32) : ee_x (ee_z x) = x := by
  unfold ee_x
  rw [ee_zi]
  have : x.toInt + 2147483648 - 2147483648 = x.toInt := by omega
  rw [this]
  exact Int32.ofInt_toInt x
theorem ee_zx {n : Nat} (h : n < 4294967296) : ee_z (ee_x n) = n := by
  have h1 := ee_zi (ee_x n)
  have h2 : (ee_x n).toInt = (n : Int) - 2147483648 := by
    unfold ee_x
    rw [Int32.toInt_ofInt]
    show Int.bmod _ 4294967296 = _
    rw [Int.bmod_eq_of_le] <;> omega
  omega
theorem ee_z0 : ee_z 0 = 2147483648 := by decide +kernel
theorem ee_zadd (x y : Int32) : ee_z (x + y) = (ee_z x + ee_z y + 2147483648) % 4294967296 := by
  have h1 := ee_zi x
  have h2 := ee_zi y
  have h3 := ee_zi (x + y)
  have h4 := ee_zlt (x + y)
  have h5 : (x + y).toInt = (x.toInt + y.toInt).bmod 4294967296 := Int32.toInt_add x y
  have h6 : ((x + y).toInt - (x.toInt + y.toInt)) % 4294967296 = 0 := by
    rw [h5]
    have := Int.bmod_emod (x := x.toInt + y.toInt) (m := 4294967296)
    omega
  omega
theorem ee_zsub (x y : Int32) : ee_z (x - y) = (ee_z x + 6442450944 - ee_z y) % 4294967296 := by
  have h1 := ee_zi x
  have h2 := ee_zi y
  have h3 := ee_zi (x - y)
  have h4 := ee_zlt (x - y)
  have h7 := ee_zlt y
  have h5 : (x - y).toInt = (x.toInt - y.toInt).bmod 4294967296 := Int32.toInt_sub x y
  have h6 : ((x - y).toInt - (x.toInt - y.toInt)) % 4294967296 = 0 := by
    rw [h5]
    have := Int.bmod_emod (x := x.toInt - y.toInt) (m := 4294967296)
    omega
  omega
/-- a number within bounds -/
def ee_in (x : Int32) (r : Nat × Nat) : Prop := r.1 ≤ ee_z x ∧ ee_z x ≤ r.2
theorem ee_in1 {x : Int32} {r : Nat × Nat} (h : ee_in x r) (hs : r.1 = r.2) : x = ee_x r.1 := by
  have : ee_z x = r.1 := Nat.le_antisymm (by rw [hs]; exact h.2) h.1
  rw [← this, ee_xz]
theorem ee_in_top (x : Int32) : ee_in x (0, 4294967295) := ⟨Nat.zero_le _, by have := ee_zlt x; show _ ≤ 4294967295; omega⟩
theorem ee_in_x {n : Nat} (h : n < 4294967296) : ee_in (ee_x n) (n, n) := by
  refine ⟨?_, ?_⟩ <;> rw [ee_zx h] <;> exact Nat.le_refl _
theorem ee_in_z (x : Int32) : ee_in x (ee_z x, ee_z x) := ⟨Nat.le_refl _, Nat.le_refl _⟩
theorem ee_iv_in {β : Type} {l u : Nat} {k : ee_V → Option β} {S : β} (h : ee_iv l u k = some S) : ∃ r : Nat × Nat, k (.inl r) = some S ∧ ∀ x : Int32, (∃ n, ee_z x = n % 4294967296 ∧ l ≤ n ∧ n ≤ u) → ee_in x r := by
  unfold ee_iv at h
  cases hb : Nat.beq (Nat.div l (nat_lit 4294967296)) (Nat.div u (nat_lit 4294967296)) with
  | true =>
    rw [hb] at h
    simp only [cond_true, ee_f_eq] at h
    refine ⟨_, h, fun x ⟨n, h1, h2, h3⟩ => ?_⟩
    have hb2 : l / 4294967296 = u / 4294967296 := Nat.eq_of_beq_eq_true hb
    constructor
    · show l % 4294967296 ≤ _
      omega
    · show _ ≤ u % 4294967296
      omega
  | false =>
    rw [hb] at h
    simp only [cond_false] at h
    exact ⟨_, h, fun x _ => ee_in_top x⟩
theorem ee_add_in {β : Type} {a b : Nat × Nat} {k : ee_V → Option β} {S : β} (h : ee_add a b k = some S) : ∃ r : Nat × Nat, k (.inl r) = some S ∧ ∀ x y : Int32, ee_in x a → ee_in y b → ee_in (x + y) r := by
  unfold ee_add at h
  simp only [ee_f_eq] at h
  obtain ⟨r, h1, h2⟩ := ee_iv_in h
  refine ⟨r, h1, fun x y hx hy => h2 _ ⟨ee_z x + ee_z y + 2147483648, ee_zadd x y, ?_, ?_⟩⟩
  · show a.1 + b.1 + 2147483648 ≤ _
    have := hx.1; have := hy.1; omega
  · show _ ≤ a.2 + b.2 + 2147483648
    have := hx.2; have := hy.2; omega
theorem ee_sub_in {β : Type} {a b : Nat × Nat} {k : ee_V → Option β} {S : β} (h : ee_sub a b k = some S) : ∃ r : Nat × Nat, k (.inl r) = some S ∧ ∀ x y : Int32, ee_in x a → ee_in y b → ee_in (x - y) r := by
  unfold ee_sub at h
  simp only [ee_f_eq] at h
  obtain ⟨r, h1, h2⟩ := ee_iv_in h
  refine ⟨r, h1, fun x y hx hy => h2 _ ⟨ee_z x + 6442450944 - ee_z y, ee_zsub x y, ?_, ?_⟩⟩
  · show a.1 + 6442450944 - b.2 ≤ _
    have := hx.1; have := hy.2; omega
  · show _ ≤ a.2 + 6442450944 - b.1
    have := hx.2; have := hy.1; omega
theorem ee_ex_in {β : Type} {f : Int32 → Int32 → Int32} {a b : Nat × Nat} {k : ee_V → Option β} {S : β} (h : ee_ex f a b k = some S) : ∃ r : Nat × Nat, k (.inl r) = some S ∧ ∀ x y : Int32, ee_in x a → ee_in y b → ee_in (f x y) r := by
  unfold ee_ex at h
  cases hb : (Nat.beq a.1 a.2 && Nat.beq b.1 b.2) with
  | true =>
    rw [hb] at h
    simp only [cond_true, ee_f_eq] at h
    refine ⟨_, h, fun x y hx hy => ?_⟩
    rw [Bool.and_eq_true] at hb
    rw [ee_in1 hx (Nat.eq_of_beq_eq_true hb.1), ee_in1 hy (Nat.eq_of_beq_eq_true hb.2)]
    exact ee_in_z _
  | false =>
    rw [hb] at h
    simp only [cond_false] at h
    exact ⟨_, h, fun x y _ _ => ee_in_top _⟩
theorem ee_and_nat (x y : Int32) (hy : 0 ≤ y) : 0 ≤ x &&& y ∧ x &&& y ≤ y := by
  obtain ⟨j, hj, rfl⟩ := nI_of (x := y) (by simpa using Int32.not_lt.mpr hy)
  obtain ⟨n, hn, rfl⟩ : ∃ n : Nat, n < 2 ^ 32 ∧ x = nI n := ⟨x.toBitVec.toNat, x.toBitVec.isLt, by
    apply Int32.toBitVec_inj.mp
    simp [nI]⟩
  have e : nI n &&& nI j = nI (n &&& j) := by
    apply Int32.toBitVec_inj.mp
    simp [nI, Int32.toBitVec_and, ← BitVec.ofNat_and]
  rw [e]
  have hle : n &&& j ≤ j := Nat.and_le_right
  exact ⟨nI_pos' (by omega), nI_le hle hj⟩
theorem ee_and_in {β : Type} {a b : Nat × Nat} {k : ee_V → Option β} {S : β} (h : ee_and a b k = some S) : ∃ r : Nat × Nat, k (.inl r) = some S ∧ ∀ x y : Int32, ee_in x a → ee_in y b → ee_in (x &&& y) r := by
  unfold ee_and at h
  cases hb : (Nat.beq a.1 a.2 && Nat.beq b.1 b.2) with
  | true =>
    rw [hb] at h
    simp only [cond_true, ee_f_eq] at h
    refine ⟨_, h, fun x y hx hy => ?_⟩
    rw [Bool.and_eq_true] at hb
    rw [ee_in1 hx (Nat.eq_of_beq_eq_true hb.1), ee_in1 hy (Nat.eq_of_beq_eq_true hb.2)]
    exact ee_in_z _
  | false =>
    rw [hb] at h
    simp only [cond_false] at h
    cases hc : (Nat.beq b.1 b.2 && Nat.ble (nat_lit 2147483648) b.1) with
    | true =>
      rw [hc] at h
      simp only [cond_true] at h
      refine ⟨_, h, fun x y hx hy => ?_⟩
      rw [Bool.and_eq_true] at hc
      have e1 : b.1 = b.2 := Nat.eq_of_beq_eq_true hc.1
      have e2 : 2147483648 ≤ b.1 := Nat.le_of_ble_eq_true hc.2
      have hz := ee_z0
      have hy1 := hy.1
      have hy2 := hy.2
      obtain ⟨g1, g2⟩ := ee_and_nat x y (ee_zleI.mpr (by omega))
      rw [ee_zleI] at g1 g2
      exact ⟨by show 2147483648 ≤ _; omega, by show _ ≤ b.1; omega⟩
    | false =>
      rw [hc] at h
      simp only [cond_false] at h
      exact ⟨_, h, fun x y _ _ => ee_in_top _⟩
/-- what an operation answers -/
def ee_fo (op : Nat) (x y : Int32) : Int32 := match op with
  | 10 => x + y
  | 11 => x - y
  | 12 => x * y
  | 13 => x &&& y
  | 14 => x ||| y
  | 15 => x ^^^ y
  | 16 => x <<< (y &&& 31)
  | 17 => x >>> (y &&& 31)
  | 18 => (x.toUInt32 >>> (y.toUInt32 &&& Int32.toUInt32 31)).toInt32
  | 19 => x / y
  | _ => x - x / y * y
theorem ee_ct {α : Type} {c : Bool} {x y : α} (h : c = true) : cond c x y = x := by rw [h]; rfl
theorem ee_cf {α : Type} {c : Bool} {x y : α} (h : c = false) : cond c x y = y := by rw [h]; rfl
theorem ee_bin_10 {a b : Nat × Nat} {k : ee_V → Option ee_S} : ee_bin 10 a b k = ee_add a b k := by
  unfold ee_bin
  rw [ee_ct (show Nat.ble 10 (nat_lit 12) = true from rfl), ee_ct (show Nat.beq 10 (nat_lit 10) = true from rfl)]
theorem ee_bin_11 {a b : Nat × Nat} {k : ee_V → Option ee_S} : ee_bin 11 a b k = ee_sub a b k := by
  unfold ee_bin
  rw [ee_ct (show Nat.ble 11 (nat_lit 12) = true from rfl), ee_cf (show Nat.beq 11 (nat_lit 10) = false from rfl), ee_ct (show Nat.beq 11 (nat_lit 11) = true from rfl)]
theorem ee_bin_12 {a b : Nat × Nat} {k : ee_V → Option ee_S} : ee_bin 12 a b k = ee_ex (· * ·) a b k := by
  unfold ee_bin
  rw [ee_ct (show Nat.ble 12 (nat_lit 12) = true from rfl), ee_cf (show Nat.beq 12 (nat_lit 10) = false from rfl), ee_cf (show Nat.beq 12 (nat_lit 11) = false from rfl), ee_ct (show Nat.beq 12 (nat_lit 12) = true from rfl)]
theorem ee_bin_13 {a b : Nat × Nat} {k : ee_V → Option ee_S} : ee_bin 13 a b k = ee_and a b k := by
  unfold ee_bin
  rw [ee_cf (show Nat.ble 13 (nat_lit 12) = false from rfl), ee_ct (show Nat.ble 13 (nat_lit 15) = true from rfl), ee_ct (show Nat.beq 13 (nat_lit 13) = true from rfl)]
theorem ee_bin_14 {a b : Nat × Nat} {k : ee_V → Option ee_S} : ee_bin 14 a b k = ee_ex (· ||| ·) a b k := by
  unfold ee_bin
  rw [ee_cf (show Nat.ble 14 (nat_lit 12) = false from rfl), ee_ct (show Nat.ble 14 (nat_lit 15) = true from rfl), ee_cf (show Nat.beq 14 (nat_lit 13) = false from rfl), ee_ct (show Nat.beq 14 (nat_lit 14) = true from rfl)]
theorem ee_bin_15 {a b : Nat × Nat} {k : ee_V → Option ee_S} : ee_bin 15 a b k = ee_ex (· ^^^ ·) a b k := by
  unfold ee_bin
  rw [ee_cf (show Nat.ble 15 (nat_lit 12) = false from rfl), ee_ct (show Nat.ble 15 (nat_lit 15) = true from rfl), ee_cf (show Nat.beq 15 (nat_lit 13) = false from rfl), ee_cf (show Nat.beq 15 (nat_lit 14) = false from rfl)]
theorem ee_bin_16 {a b : Nat × Nat} {k : ee_V → Option ee_S} : ee_bin 16 a b k = ee_ex (fun x y => x <<< (y &&& 31)) a b k := by
  unfold ee_bin
  rw [ee_cf (show Nat.ble 16 (nat_lit 12) = false from rfl), ee_cf (show Nat.ble 16 (nat_lit 15) = false from rfl), ee_ct (show Nat.beq 16 (nat_lit 16) = true from rfl)]
theorem ee_bin_17 {a b : Nat × Nat} {k : ee_V → Option ee_S} : ee_bin 17 a b k = ee_ex (fun x y => x >>> (y &&& 31)) a b k := by
  unfold ee_bin
  rw [ee_cf (show Nat.ble 17 (nat_lit 12) = false from rfl), ee_cf (show Nat.ble 17 (nat_lit 15) = false from rfl), ee_cf (show Nat.beq 17 (nat_lit 16) = false from rfl), ee_ct (show Nat.beq 17 (nat_lit 17) = true from rfl)]
theorem ee_bin_18 {a b : Nat × Nat} {k : ee_V → Option ee_S} : ee_bin 18 a b k = ee_ex (fun x y => (x.toUInt32 >>> (y.toUInt32 &&& Int32.toUInt32 31)).toInt32) a b k := by
  unfold ee_bin
  rw [ee_cf (show Nat.ble 18 (nat_lit 12) = false from rfl), ee_cf (show Nat.ble 18 (nat_lit 15) = false from rfl), ee_cf (show Nat.beq 18 (nat_lit 16) = false from rfl), ee_cf (show Nat.beq 18 (nat_lit 17) = false from rfl), ee_ct (show Nat.beq 18 (nat_lit 18) = true from rfl)]
theorem ee_bin_19 {a b : Nat × Nat} {k : ee_V → Option ee_S} (hc : (Nat.beq a.1 a.2 && (Nat.beq b.1 b.2 && !Nat.beq b.1 (nat_lit 2147483648))) = true) : ee_bin 19 a b k = ee_ex (fun x y => x / y) a b k := by
  unfold ee_bin
  rw [ee_cf (show Nat.ble 19 (nat_lit 12) = false from rfl), ee_cf (show Nat.ble 19 (nat_lit 15) = false from rfl), ee_cf (show Nat.beq 19 (nat_lit 16) = false from rfl), ee_cf (show Nat.beq 19 (nat_lit 17) = false from rfl), ee_cf (show Nat.beq 19 (nat_lit 18) = false from rfl), ee_ct hc, ee_ct (show Nat.beq 19 (nat_lit 19) = true from rfl)]
theorem ee_bin_20 {a b : Nat × Nat} {k : ee_V → Option ee_S} (hc : (Nat.beq a.1 a.2 && (Nat.beq b.1 b.2 && !Nat.beq b.1 (nat_lit 2147483648))) = true) : ee_bin 20 a b k = ee_ex (fun x y => x - x / y * y) a b k := by
  unfold ee_bin
  rw [ee_cf (show Nat.ble 20 (nat_lit 12) = false from rfl), ee_cf (show Nat.ble 20 (nat_lit 15) = false from rfl), ee_cf (show Nat.beq 20 (nat_lit 16) = false from rfl), ee_cf (show Nat.beq 20 (nat_lit 17) = false from rfl), ee_cf (show Nat.beq 20 (nat_lit 18) = false from rfl), ee_ct hc, ee_cf (show Nat.beq 20 (nat_lit 19) = false from rfl), ee_ct (show Nat.beq 20 (nat_lit 20) = true from rfl)]
theorem ee_bin_19n {a b : Nat × Nat} {k : ee_V → Option ee_S} (hc : (Nat.beq a.1 a.2 && (Nat.beq b.1 b.2 && !Nat.beq b.1 (nat_lit 2147483648))) = false) : ee_bin 19 a b k = none := by
  unfold ee_bin
  rw [ee_cf (show Nat.ble 19 (nat_lit 12) = false from rfl), ee_cf (show Nat.ble 19 (nat_lit 15) = false from rfl), ee_cf (show Nat.beq 19 (nat_lit 16) = false from rfl), ee_cf (show Nat.beq 19 (nat_lit 17) = false from rfl), ee_cf (show Nat.beq 19 (nat_lit 18) = false from rfl), ee_cf hc]
theorem ee_bin_20n {a b : Nat × Nat} {k : ee_V → Option ee_S} (hc : (Nat.beq a.1 a.2 && (Nat.beq b.1 b.2 && !Nat.beq b.1 (nat_lit 2147483648))) = false) : ee_bin 20 a b k = none := by
  unfold ee_bin
  rw [ee_cf (show Nat.ble 20 (nat_lit 12) = false from rfl), ee_cf (show Nat.ble 20 (nat_lit 15) = false from rfl), ee_cf (show Nat.beq 20 (nat_lit 16) = false from rfl), ee_cf (show Nat.beq 20 (nat_lit 17) = false from rfl), ee_cf (show Nat.beq 20 (nat_lit 18) = false from rfl), ee_cf hc]
theorem ee_bin_in {op : Nat} (h1 : 10 ≤ op) (h2 : op ≤ 20) {a b : Nat × Nat} {k : ee_V → Option ee_S} {S : ee_S} (h : ee_bin op a b k = some S) : ∃ r : Nat × Nat, k (.inl r) = some S ∧ ∀ x y : Int32, ee_in x a → ee_in y b → ee_in (ee_fo op x y) r ∧ (19 ≤ op → ¬ y = 0) := by
  have hz : (Nat.beq a.1 a.2 && (Nat.beq b.1 b.2 && !Nat.beq b.1 (nat_lit 2147483648))) = true → ∀ y : Int32, ee_in y b → ¬ y = 0 := by
    intro hc y hy e
    simp only [Bool.and_eq_true, Bool.not_eq_true'] at hc
    have e1 : b.1 = b.2 := Nat.eq_of_beq_eq_true hc.2.1
    have hy1 := hy.1
    have hy2 := hy.2
    rw [e, ee_z0] at hy1 hy2
    have e3 : b.1 = nat_lit 2147483648 := by show b.1 = 2147483648; omega
    have e4 : Nat.beq b.1 (nat_lit 2147483648) = true := by rw [e3]
    rw [e4] at hc
    cases hc.2.2
  rcases (show op = 10 ∨ op = 11 ∨ op = 12 ∨ op = 13 ∨ op = 14 ∨ op = 15 ∨ op = 16 ∨ op = 17 ∨ op = 18 ∨ op = 19 ∨ op = 20 by omega) with rfl | rfl | rfl | rfl | rfl | rfl | rfl | rfl | rfl | rfl | rfl
  · rw [ee_bin_10] at h
    obtain ⟨r, q1, q2⟩ := ee_add_in h
    exact ⟨r, q1, fun x y hx hy => ⟨q2 x y hx hy, fun q => absurd q (by decide)⟩⟩
  · rw [ee_bin_11] at h
    obtain ⟨r, q1, q2⟩ := ee_sub_in h
    exact ⟨r, q1, fun x y hx hy => ⟨q2 x y hx hy, fun q => absurd q (by decide)⟩⟩
  · rw [ee_bin_12] at h
    obtain ⟨r, q1, q2⟩ := ee_ex_in h
    exact ⟨r, q1, fun x y hx hy => ⟨q2 x y hx hy, fun q => absurd q (by decide)⟩⟩
  · rw [ee_bin_13] at h
    obtain ⟨r, q1, q2⟩ := ee_and_in h
    exact ⟨r, q1, fun x y hx hy => ⟨q2 x y hx hy, fun q => absurd q (by decide)⟩⟩
  · rw [ee_bin_14] at h
    obtain ⟨r, q1, q2⟩ := ee_ex_in h
    exact ⟨r, q1, fun x y hx hy => ⟨q2 x y hx hy, fun q => absurd q (by decide)⟩⟩
  · rw [ee_bin_15] at h
    obtain ⟨r, q1, q2⟩ := ee_ex_in h
    exact ⟨r, q1, fun x y hx hy => ⟨q2 x y hx hy, fun q => absurd q (by decide)⟩⟩
  · rw [ee_bin_16] at h
    obtain ⟨r, q1, q2⟩ := ee_ex_in h
    exact ⟨r, q1, fun x y hx hy => ⟨q2 x y hx hy, fun q => absurd q (by decide)⟩⟩
  · rw [ee_bin_17] at h
    obtain ⟨r, q1, q2⟩ := ee_ex_in h
    exact ⟨r, q1, fun x y hx hy => ⟨q2 x y hx hy, fun q => absurd q (by decide)⟩⟩
  · rw [ee_bin_18] at h
    obtain ⟨r, q1, q2⟩ := ee_ex_in h
    exact ⟨r, q1, fun x y hx hy => ⟨q2 x y hx hy, fun q => absurd q (by decide)⟩⟩
  · cases hc : (Nat.beq a.1 a.2 && (Nat.beq b.1 b.2 && !Nat.beq b.1 (nat_lit 2147483648))) with
    | false =>
      rw [ee_bin_19n hc] at h
      cases h
    | true =>
      rw [ee_bin_19 hc] at h
      obtain ⟨r, q1, q2⟩ := ee_ex_in h
      exact ⟨r, q1, fun x y hx hy => ⟨q2 x y hx hy, fun _ => hz hc y hy⟩⟩
  · cases hc : (Nat.beq a.1 a.2 && (Nat.beq b.1 b.2 && !Nat.beq b.1 (nat_lit 2147483648))) with
    | false =>
      rw [ee_bin_20n hc] at h
      cases h
    | true =>
      rw [ee_bin_20 hc] at h
      obtain ⟨r, q1, q2⟩ := ee_ex_in h
      exact ⟨r, q1, fun x y hx hy => ⟨q2 x y hx hy, fun _ => hz hc y hy⟩⟩
theorem ee_lt_in {a b : Nat × Nat} {v : Bool} (h : ee_lt a b = some v) {x y : Int32} (hx : ee_in x a) (hy : ee_in y b) : (v = true ↔ x < y) := by
  unfold ee_lt at h
  have hx1 := hx.1; have hx2 := hx.2; have hy1 := hy.1; have hy2 := hy.2
  rw [ee_zltI]
  cases h1 : Nat.blt a.2 b.1 with
  | true =>
    rw [h1] at h
    cases h
    have : a.2 < b.1 := Nat.le_of_ble_eq_true h1
    exact ⟨fun _ => by omega, fun _ => rfl⟩
  | false =>
    rw [h1] at h
    simp only [cond_false] at h
    cases h2 : Nat.ble b.2 a.1 with
    | true =>
      rw [h2] at h
      cases h
      have : b.2 ≤ a.1 := Nat.le_of_ble_eq_true h2
      exact ⟨fun q => (by cases q), fun q => (by omega)⟩
    | false =>
      rw [h2] at h
      cases h
theorem ee_eq_in {a b : Nat × Nat} {v : Bool} (h : ee_eq a b = some v) {x y : Int32} (hx : ee_in x a) (hy : ee_in y b) : (v = true ↔ x = y) := by
  unfold ee_eq at h
  have hx1 := hx.1; have hx2 := hx.2; have hy1 := hy.1; have hy2 := hy.2
  rw [ee_zeq]
  cases h1 : (Nat.beq a.1 a.2 && (Nat.beq b.1 b.2 && Nat.beq a.1 b.1)) with
  | true =>
    rw [h1] at h
    cases h
    simp only [Bool.and_eq_true] at h1
    have e1 : a.1 = a.2 := Nat.eq_of_beq_eq_true h1.1
    have e2 : b.1 = b.2 := Nat.eq_of_beq_eq_true h1.2.1
    have e3 : a.1 = b.1 := Nat.eq_of_beq_eq_true h1.2.2
    exact ⟨fun _ => by omega, fun _ => rfl⟩
  | false =>
    rw [h1] at h
    simp only [cond_false] at h
    cases h2 : (Nat.blt a.2 b.1 || Nat.blt b.2 a.1) with
    | true =>
      rw [h2] at h
      cases h
      rw [Bool.or_eq_true] at h2
      refine ⟨fun q => (by cases q), fun q => ?_⟩
      rcases h2 with h2 | h2
      · have : a.2 < b.1 := Nat.le_of_ble_eq_true h2
        omega
      · have : b.2 < a.1 := Nat.le_of_ble_eq_true h2
        omega
    | false =>
      rw [h2] at h
      cases h
theorem ee_not_in {o : Option Bool} {v : Bool} (h : ee_not o = some v) : o = some (!v) := by
  cases o with
  | none => cases h
  | some b => cases h; simp
/-- what a comparison means -/
def ee_ch (cond : Nat) (x y : Int32) : Prop := match cond with
  | 0 => x = y
  | 1 => ¬ x = y
  | 2 => x < y
  | 3 => ¬ x < y
  | 4 => y < x
  | _ => ¬ y < x
theorem ee_cmp_0 {a b : Nat × Nat} : ee_cmp 0 a b = ee_eq a b := by
  unfold ee_cmp
  rw [ee_ct (show Nat.ble 0 (nat_lit 1) = true from rfl), ee_ct (show Nat.beq 0 (nat_lit 0) = true from rfl)]
theorem ee_cmp_1 {a b : Nat × Nat} : ee_cmp 1 a b = ee_not (ee_eq a b) := by
  unfold ee_cmp
  rw [ee_ct (show Nat.ble 1 (nat_lit 1) = true from rfl), ee_cf (show Nat.beq 1 (nat_lit 0) = false from rfl)]
theorem ee_cmp_2 {a b : Nat × Nat} : ee_cmp 2 a b = ee_lt a b := by
  unfold ee_cmp
  rw [ee_cf (show Nat.ble 2 (nat_lit 1) = false from rfl), ee_ct (show Nat.ble 2 (nat_lit 3) = true from rfl), ee_ct (show Nat.beq 2 (nat_lit 2) = true from rfl)]
theorem ee_cmp_3 {a b : Nat × Nat} : ee_cmp 3 a b = ee_not (ee_lt a b) := by
  unfold ee_cmp
  rw [ee_cf (show Nat.ble 3 (nat_lit 1) = false from rfl), ee_ct (show Nat.ble 3 (nat_lit 3) = true from rfl), ee_cf (show Nat.beq 3 (nat_lit 2) = false from rfl)]
theorem ee_cmp_4 {a b : Nat × Nat} : ee_cmp 4 a b = ee_lt b a := by
  unfold ee_cmp
  rw [ee_cf (show Nat.ble 4 (nat_lit 1) = false from rfl), ee_cf (show Nat.ble 4 (nat_lit 3) = false from rfl), ee_ct (show Nat.beq 4 (nat_lit 4) = true from rfl)]
theorem ee_cmp_5 (n : Nat) {a b : Nat × Nat} : ee_cmp (n + 5) a b = ee_not (ee_lt b a) := by
  unfold ee_cmp
  rw [ee_cf (show Nat.ble (n + 5) (nat_lit 1) = false from rfl), ee_cf (show Nat.ble (n + 5) (nat_lit 3) = false from rfl), ee_cf (show Nat.beq (n + 5) (nat_lit 4) = false from rfl)]
theorem ee_cmp_in {cond : Nat} {a b : Nat × Nat} {v : Bool} (h : ee_cmp cond a b = some v) {x y : Int32} (hx : ee_in x a) (hy : ee_in y b) : (v = true ↔ ee_ch cond x y) := by
  match cond, h with
  | 0, h => exact ee_eq_in (ee_cmp_0.symm.trans h) hx hy
  | 1, h =>
    have := ee_eq_in (ee_not_in (ee_cmp_1.symm.trans h)) hx hy
    show _ ↔ ¬ x = y
    cases v <;> simp_all
  | 2, h => exact ee_lt_in (ee_cmp_2.symm.trans h) hx hy
  | 3, h =>
    have := ee_lt_in (ee_not_in (ee_cmp_3.symm.trans h)) hx hy
    show _ ↔ ¬ x < y
    cases v <;> simp_all
  | 4, h => exact ee_lt_in (ee_cmp_4.symm.trans h) hy hx
  | n + 5, h =>
    have := ee_lt_in (ee_not_in ((ee_cmp_5 n).symm.trans h)) hy hx
    show _ ↔ ¬ y < x
    cases v <;> simp_all
