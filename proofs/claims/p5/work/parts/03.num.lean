/-! ===== numbers: an int by its place among 0 .. 2^32 - 1 ===== -/
/-- a number is computed before it is handed on -/
def ee_f {β : Type} (n : Nat) (k : Nat → β) : β := match n with
  | 0 => k (nat_lit 0)
  | m + 1 => k (Nat.succ m)
def ee_z (x : Int32) : Nat := (x.toInt + 2147483648).toNat
def ee_x (n : Nat) : Int32 := Int32.ofInt ((n : Int) - 2147483648)
