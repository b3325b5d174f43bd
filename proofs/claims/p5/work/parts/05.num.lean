/-! ===== numbers ===== -/
abbrev ee_V : Type := (Nat × Nat) ⊕ (Nat ⊕ Nat)
theorem ee_f_eq {β : Type} (n : Nat) (k : Nat → β) : ee_f n k = k n := by cases n <;> rfl
theorem ee_zi (x : Int32) : (ee_z x : Int) = x.toInt + 2147483648 := by
  have h := Int32.le_toInt x
  unfold ee_z
  omega
theorem ee_zlt (x : Int32) : ee_z x < 4294967296 := by
  have h := Int32.toInt_lt x
  have h2 := ee_zi x
  omega
theorem ee_zinj {x y : Int32} (h : ee_z x = ee_z y) : x = y := by
  have h1 := ee_zi x
  have h2 := ee_zi y
  exact Int32.toInt_inj.mp (by omega)
theorem ee_zeq {x y : Int32} : x = y ↔ ee_z x = ee_z y := ⟨fun h => by rw [h], ee_zinj⟩
theorem ee_zltI {x y : Int32} : x < y ↔ ee_z x < ee_z y := by
  have h1 := ee_zi x
  have h2 := ee_zi y
  rw [Int32.lt_iff_toInt_lt]
  omega
theorem ee_zleI {x y : Int32} : x ≤ y ↔ ee_z x ≤ ee_z y := by
  have h1 := ee_zi x
  have h2 := ee_zi y
  rw [Int32.le_iff_toInt_le]
  omega
theorem ee_xz (x : Int32) : ee_x (ee_z x) = x := by
  unfold ee_x
  rw [ee_zi]
  have : x.toInt + 2147483648 - 2147483648 = x.toInt := by omega
  rw [this]
  exact Int32.ofInt_toInt x
theorem ee_zx {n : Nat} (h : n < 4294967296) : ee_z (ee_x n) = n := by
  have h1 := ee_zi (ee_x n)
  have h2 : (ee_x n).toInt = (n : Int) - 2147483648 := by
    unfold ee_x
    rw [Int32.toInt_ofInt]
    show Int.bmod _ 4294967296 = _
    rw [Int.bmod_eq_of_le] <;> omega
  omega
theorem ee_z0 : ee_z 0 = 2147483648 := by decide +kernel
theorem ee_and_nat (x y : Int32) (hy : 0 ≤ y) : 0 ≤ x &&& y ∧ x &&& y ≤ y := by
  obtain ⟨j, hj, rfl⟩ := nI_of (x := y) (by simpa using Int32.not_lt.mpr hy)
  obtain ⟨n, hn, rfl⟩ : ∃ n : Nat, n < 2 ^ 32 ∧ x = nI n := ⟨x.toBitVec.toNat, x.toBitVec.isLt, by
    apply Int32.toBitVec_inj.mp
    simp [nI]⟩
  have e : nI n &&& nI j = nI (n &&& j) := by
    apply Int32.toBitVec_inj.mp
    simp [nI, Int32.toBitVec_and, ← BitVec.ofNat_and]
  rw [e]
  have hle : n &&& j ≤ j := Nat.and_le_right
  exact ⟨nI_pos' (by omega), nI_le hle hj⟩
def ee_fo (op : Nat) (x y : Int32) : Int32 := match op with
  | 10 => x + y
  | 11 => x - y
  | 12 => x * y
  | 13 => x &&& y
  | 14 => x ||| y
  | 15 => x ^^^ y
  | 16 => x <<< (y &&& 31)
  | 17 => x >>> (y &&& 31)
  | 18 => (x.toUInt32 >>> (y.toUInt32 &&& Int32.toUInt32 31)).toInt32
  | 19 => x / y
  | _ => x - x / y * y
theorem ee_ct {α : Type} {c : Bool} {x y : α} (h : c = true) : cond c x y = x := by rw [h]; rfl
theorem ee_cf {α : Type} {c : Bool} {x y : α} (h : c = false) : cond c x y = y := by rw [h]; rfl
def ee_ch (cond : Nat) (x y : Int32) : Prop := match cond with
  | 0 => x = y
  | 1 => ¬ x = y
  | 2 => x < y
  | 3 => ¬ x < y
  | 4 => y < x
  | _ => ¬ y < x
theorem ee_bn {a b : Nat} (h : a ≠ b) : Nat.beq a b = false := by
  cases hb : Nat.beq a b with
  | false => rfl
  | true => exact absurd (Nat.eq_of_beq_eq_true hb) h
def ee_in (x : Int32) (r : Nat × Nat) : Prop := r.1 ≤ ee_z x ∧ ee_z x ≤ r.2
