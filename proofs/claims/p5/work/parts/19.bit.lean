/-! ===== bits, shifts, quotients ===== -/
def ab_cc (f g : ab_L) : Bool := decide (f.2.1 = 0) && decide (g.2.1 = 0)
/-- both known: computed by the machine's own operation -/
def ab_exact {β : Type} (op : Nat) (h : ab_H) (f g : ab_L) (k : ab_H → ab_L → Option β) : Option β := ab_g ((ee_fo op (Int32.ofInt f.2.2) (Int32.ofInt g.2.2)).toInt) fun r => k h (nat_lit 0, 0, r)
/-- 2^n - 1 that is not below -/
def ab_up (n : Int) : Int := bif decide (n ≤ 0) then 0 else bif decide (n ≤ 1) then 1 else bif decide (n ≤ 3) then 3 else bif decide (n ≤ 7) then 7 else bif decide (n ≤ 15) then 15 else bif decide (n ≤ 31) then 31 else bif decide (n ≤ 63) then 63 else bif decide (n ≤ 127) then 127 else bif decide (n ≤ 255) then 255 else bif decide (n ≤ 65535) then 65535 else 2147483647
/-- a difference that is known from now on -/
def ab_rel {β : Type} (h : ab_H) (a b : Nat) (d : Int) (k : ab_H → β) : β := ab_g d fun d => k (h.1, (a, b, d) :: h.2.1, h.2.2)
section BT
variable {cls : Nat → List ab_Cl} {dA : Nat → ClassId} {xa : List Nat} {ks : List Nat} {ws : va_W} {rv : List Int} {sv : List (Nat × Nat)} {h : ab_H} {f g : ab_L} {k : ab_H → ab_L → Option (List ab_S)} {L : List ab_S} {x y : Int32}
theorem ab_exact_snd {op : Nat} (hG : ab_G cls dA xa ks ws rv sv h) (hx : ab_ev rv f = some x.toInt) (hy : ab_ev rv g = some y.toInt) (hc : ab_cc f g = true) (hk : ab_exact op h f g k = some L) : ab_gets cls dA xa ks ws rv sv L k (ee_fo op x y).toInt := by
  unfold ab_cc at hc
  rw [Bool.and_eq_true, decide_eq_true_eq, decide_eq_true_eq] at hc
  rw [ab_ev0 hc.1] at hx
  rw [ab_ev0 hc.2] at hy
  have hx' := Option.some.inj hx
  have hy' := Option.some.inj hy
  unfold ab_exact at hk
  rw [ab_g_eq, hx', hy', Int32.ofInt_toInt, Int32.ofInt_toInt] at hk
  exact ab_gets_id hG hk (ab_ev0 (f := (0, 0, (ee_fo op x y).toInt)) rfl)
theorem ab_rel_G (hG : ab_G cls dA xa ks ws rv sv h) {a b : Nat} {d x y : Int} (h1 : rv[a]? = some x) (h2 : rv[b]? = some y) (h3 : y + d ≤ x) : ab_G cls dA xa ks ws rv sv (h.1, (a, b, d) :: h.2.1, h.2.2) := by
  obtain ⟨g1, g2, g3, g4, g5, g6⟩ := hG
  refine ⟨g1, fun r hr => ?_, g3, g4, g5, g6⟩
  rcases List.mem_cons.mp hr with rfl | hr
  · exact ⟨x, y, h1, h2, h3⟩
  · exact g2 r hr
theorem ab_and_le (x y : Int32) (hy : 0 ≤ y.toInt) : 0 ≤ (x &&& y).toInt ∧ (x &&& y).toInt ≤ y.toInt := by
  obtain ⟨h1, h2⟩ := ee_and_nat x y (by rw [Int32.le_iff_toInt_le]; exact hy)
  rw [Int32.le_iff_toInt_le] at h1 h2
  exact ⟨h1, h2⟩
end BT
