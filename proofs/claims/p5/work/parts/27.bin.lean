/-! ===== the machine's bits, shifts, quotients as numbers ===== -/
theorem ab_nat_of (x : Int32) (hx : 0 ≤ x.toInt) : ∃ a : Nat, a < 2147483648 ∧ x = nI a ∧ x.toInt = (a : Int) := by
  obtain ⟨a, ha, rfl⟩ := nI_of (x := x) (by
    intro h9
    rw [Int32.lt_iff_toInt_lt] at h9
    have e9 : (0 : Int32).toInt = 0 := rfl
    omega)
  exact ⟨a, by omega, rfl, nI_toInt (by omega)⟩
theorem ab_or_le (x y : Int32) (hx : 0 ≤ x.toInt) (hy : 0 ≤ y.toInt) : x.toInt ≤ (x ||| y).toInt ∧ y.toInt ≤ (x ||| y).toInt ∧ ∀ kk : Nat, x.toInt < ((2 ^ kk : Nat) : Int) → y.toInt < ((2 ^ kk : Nat) : Int) → (x ||| y).toInt < ((2 ^ kk : Nat) : Int) := by
  obtain ⟨a, ha, ea, ta⟩ := ab_nat_of x hx
  obtain ⟨b, hb, eb, tb⟩ := ab_nat_of y hy
  have e : x ||| y = nI (a ||| b) := by
    rw [ea, eb]
    apply Int32.toBitVec_inj.mp
    simp [nI, Int32.toBitVec_or, ← BitVec.ofNat_or]
  have hab : a ||| b < 2147483648 := Nat.or_lt_two_pow (n := 31) ha hb
  have te : (x ||| y).toInt = ((a ||| b : Nat) : Int) := by rw [e]; exact nI_toInt (by omega)
  have l1 : a ≤ a ||| b := Nat.left_le_or
  have l2 : b ≤ a ||| b := Nat.right_le_or
  rw [te, ta, tb]
  refine ⟨by omega, by omega, fun kk h1 h2 => ?_⟩
  have h3 : a ||| b < 2 ^ kk := Nat.or_lt_two_pow (by omega) (by omega)
  omega
theorem ab_up_spec {n : Int} (hn : n ≤ 2147483647) : ∃ kk : Nat, n < ((2 ^ kk : Nat) : Int) ∧ ab_up n = ((2 ^ kk : Nat) : Int) - 1 := by
  unfold ab_up
  by_cases h0 : n ≤ 0
  · rw [ee_ct (by simpa using h0)]; exact ⟨0, by show n < 1; omega, rfl⟩
  rw [ee_cf (by simpa using h0)]
  by_cases h1 : n ≤ 1
  · rw [ee_ct (by simpa using h1)]; exact ⟨1, by show n < 2; omega, rfl⟩
  rw [ee_cf (by simpa using h1)]
  by_cases h2 : n ≤ 3
  · rw [ee_ct (by simpa using h2)]; exact ⟨2, by show n < 4; omega, rfl⟩
  rw [ee_cf (by simpa using h2)]
  by_cases h3 : n ≤ 7
  · rw [ee_ct (by simpa using h3)]; exact ⟨3, by show n < 8; omega, rfl⟩
  rw [ee_cf (by simpa using h3)]
  by_cases h4 : n ≤ 15
  · rw [ee_ct (by simpa using h4)]; exact ⟨4, by show n < 16; omega, rfl⟩
  rw [ee_cf (by simpa using h4)]
  by_cases h5 : n ≤ 31
  · rw [ee_ct (by simpa using h5)]; exact ⟨5, by show n < 32; omega, rfl⟩
  rw [ee_cf (by simpa using h5)]
  by_cases h6 : n ≤ 63
  · rw [ee_ct (by simpa using h6)]; exact ⟨6, by show n < 64; omega, rfl⟩
  rw [ee_cf (by simpa using h6)]
  by_cases h7 : n ≤ 127
  · rw [ee_ct (by simpa using h7)]; exact ⟨7, by show n < 128; omega, rfl⟩
  rw [ee_cf (by simpa using h7)]
  by_cases h8 : n ≤ 255
  · rw [ee_ct (by simpa using h8)]; exact ⟨8, by show n < 256; omega, rfl⟩
  rw [ee_cf (by simpa using h8)]
  by_cases h9 : n ≤ 65535
  · rw [ee_ct (by simpa using h9)]; exact ⟨16, by show n < 65536; omega, rfl⟩
  rw [ee_cf (by simpa using h9)]
  exact ⟨31, by show n < 2147483648; omega, rfl⟩
def ab_sh (y : Int32) : Nat := ((y &&& 31).toBitVec.smod 32).toNat
theorem ab_sh_of : ∀ j : Fin 32, ab_sh (nI j.1) = j.1 := by decide +kernel
theorem ab_shr (x y : Int32) : (x >>> (y &&& 31)).toInt = x.toInt / ((2 ^ ab_sh y : Nat) : Int) := by
  show (BitVec.sshiftRight' x.toBitVec ((y &&& 31).toBitVec.smod 32)).toInt = _
  rw [BitVec.toInt_sshiftRight', Int.shiftRight_eq_div_pow]
  rfl
theorem ab_shl (y : Int32) {a : Nat} (ha : a * 2 ^ ab_sh y < 2147483648) : (nI a <<< (y &&& 31)).toInt = ((a * 2 ^ ab_sh y : Nat) : Int) := by
  have hp : 0 < 2 ^ ab_sh y := Nat.two_pow_pos _
  have ha2 : a < 2147483648 := Nat.lt_of_le_of_lt (Nat.le_mul_of_pos_right a hp) ha
  show ((nI a).toBitVec <<< ((y &&& 31).toBitVec.smod 32)).toInt = _
  rw [BitVec.shiftLeft_eq', BitVec.toInt_eq_toNat_bmod, BitVec.toNat_shiftLeft, Nat.shiftLeft_eq]
  have e1 : (nI a).toBitVec.toNat = a := by
    show a % 4294967296 = a
    omega
  have e2 : ((y &&& 31).toBitVec.smod 32).toNat = ab_sh y := rfl
  rw [e1, e2, Nat.mod_eq_of_lt (by omega)]
  exact ab_bm (by omega) (by omega)
def ab_us (y : Int32) : Nat := (y.toUInt32 &&& Int32.toUInt32 31).toNat % 32
theorem ab_ushr (x y : Int32) (hN : x.toUInt32.toNat / 2 ^ ab_us y < 2147483648) : ((x.toUInt32 >>> (y.toUInt32 &&& Int32.toUInt32 31)).toInt32).toInt = ((x.toUInt32.toNat / 2 ^ ab_us y : Nat) : Int) := by
  rw [← Int32.toInt_toBitVec, UInt32.toBitVec_toInt32, BitVec.toInt_eq_toNat_bmod]
  have e1 : (x.toUInt32 >>> (y.toUInt32 &&& Int32.toUInt32 31)).toBitVec.toNat = x.toUInt32.toNat / 2 ^ ab_us y := by
    show (x.toUInt32 >>> (y.toUInt32 &&& Int32.toUInt32 31)).toNat = _
    rw [UInt32.toNat_shiftRight, Nat.shiftRight_eq_div_pow]
    rfl
  rw [e1]
  exact ab_bm (by omega) (by omega)
theorem ab_div (x y : Int32) (hx : 0 ≤ x.toInt) (hy : 0 < y.toInt) : (x / y).toInt = x.toInt / y.toInt := by
  rw [Int32.toInt_div_of_ne_right x y (by
    rintro rfl
    have e9 : (-1 : Int32).toInt = -1 := by decide
    omega)]
  exact Int.tdiv_eq_ediv_of_nonneg hx
theorem ab_dm {x y : Int} (hx : 0 ≤ x) (hy : 0 < y) : 0 ≤ x / y ∧ x / y * y ≤ x ∧ 0 ≤ x / y * y ∧ x - x / y * y < y ∧ x / y ≤ x := by
  have h1 : 0 ≤ x / y := Int.ediv_nonneg hx (by omega)
  have h2 : x / y * y ≤ x := Int.ediv_mul_le x (by omega)
  have h3 : 0 ≤ x / y * y := Int.mul_nonneg h1 (by omega)
  have h4 := Int.emod_lt_of_pos x hy
  have h5 : x % y + y * (x / y) = x := Int.emod_add_mul_ediv x y
  rw [Int.mul_comm] at h5
  have h6 : x / y ≤ x := Int.ediv_le_self y hx
  exact ⟨h1, h2, h3, by omega, h6⟩
theorem ab_rem (x y : Int32) (hx : 0 ≤ x.toInt) (hy : 0 < y.toInt) : (x - x / y * y).toInt = x.toInt - x.toInt / y.toInt * y.toInt := by
  obtain ⟨h1, h2, h3, h4, h6⟩ := ab_dm hx hy
  have bx := ab_i32 x
  have e1 : (x / y).toInt = x.toInt / y.toInt := ab_div x y hx hy
  have e2 : (x / y * y).toInt = x.toInt / y.toInt * y.toInt := by
    rw [ab_tmul, e1] <;> rw [e1] <;> omega
  rw [ab_tsub, e2] <;> rw [e2] <;> omega
/-- quotients grow with the first and fall with the second -/
theorem ab_dmono {a x b y z w : Int} (ha : 0 ≤ a) (h1 : a ≤ x) (h2 : x ≤ b) (hz : 0 < z) (h3 : z ≤ y) (h4 : y ≤ w) : a / w ≤ x / y ∧ x / y ≤ b / z := by
  constructor
  · have d := ab_dm (x := a) (y := w) ha (by omega)
    refine Int.le_ediv_of_mul_le (by omega) ?_
    have h9 : a / w * y ≤ a / w * w := Int.mul_le_mul_of_nonneg_left h4 d.1
    omega
  · have d := ab_dm (x := x) (y := y) (by omega) (by omega)
    refine Int.le_ediv_of_mul_le hz ?_
    have h9 : x / y * z ≤ x / y * y := Int.mul_le_mul_of_nonneg_left h3 d.1
    omega
