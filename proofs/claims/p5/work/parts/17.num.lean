/-! ===== names for numbers ===== -/
theorem ab_Rl_mono {rv rv' : List Int} (h : rv <+: rv') {rl : List (Nat × Nat × Int)} (hr : ab_Rl rv rl) : ab_Rl rv' rl := by
  intro r hm
  obtain ⟨x, y, h1, h2, h3⟩ := hr r hm
  exact ⟨x, y, ab_pre h h1, ab_pre h h2, h3⟩
theorem ab_fact_mono {rv rv' : List Int} {sv sv' : List (Nat × Nat)} {xa : List Nat} {ws : va_W} (h1 : rv <+: rv') (h2 : sv <+: sv') {f : ab_F} (h : ab_fact rv sv xa ws f) : ab_fact rv' sv' xa ws f := by
  obtain ⟨q, e, i, v, g1, g2, g3, g4, g5⟩ := h
  exact ⟨q, e, i, v, ab_pre h2 g1, g2, ab_ki_mono h1 g3, g4, ab_ok_mono h1 h2 g5⟩
theorem ab_open_mono {rv rv' : List Int} {sv sv' : List (Nat × Nat)} {dt : List (Nat × ab_Key)} (h1 : rv <+: rv') (h2 : sv <+: sv') {k : Nat} {p : Nat × Nat} (h : ab_open rv sv dt k p) : ab_open rv' sv' dt k p := by
  obtain ⟨d, hd, q, g1, g2, g3, g4⟩ := h
  exact ⟨d, hd, q, ab_pre h2 g1, g2, g3, ab_ki_mono h1 g4⟩
theorem ab_CL_mono {cls : Nat → List ab_Cl} {ks : List Nat} {ws : va_W} {rv rv' : List Int} {sv sv' : List (Nat × Nat)} {dt : List (Nat × ab_Key)} (h1 : rv <+: rv') (h2 : sv <+: sv') (h : ab_CL cls ks ws rv sv dt) : ab_CL cls ks ws rv' sv' dt := by
  intro k κ a e g1 g2 c hc hp
  exact h k κ a e g1 g2 c hc (fun p hm ho => hp p hm (ab_open_mono h1 h2 ho))
def ab_snoc {α : Type} : List α → α → List α
  | [], x => [x]
  | a :: l, x => a :: ab_snoc l x
theorem ab_snoc_eq {α : Type} (l : List α) (x : α) : ab_snoc l x = l ++ [x] := by
  induction l with
  | nil => rfl
  | cons a l ih => show a :: ab_snoc l x = _; rw [ih]; rfl
/-- a new name for a number between lo and hi -/
def ab_fr {β : Type} (h : ab_H) (lo hi : Int) (k : ab_H → ab_L → β) : β := ab_g lo fun lo => ab_g hi fun hi => ee_f (ee_len h.1) fun n => k (ab_snoc h.1 (lo, hi), h.2) (n, 1, 0)
section NM
variable {cls : Nat → List ab_Cl} {dA : Nat → ClassId} {xa : List Nat} {ks : List Nat} {ws : va_W} {rv : List Int} {sv : List (Nat × Nat)} {h : ab_H}
theorem ab_I_new {iv : List (Int × Int)} (hI : ab_I rv iv) {lo hi z : Int} (h1 : lo ≤ z) (h2 : z ≤ hi) : ab_I (rv ++ [z]) (ab_snoc iv (lo, hi)) := by
  obtain ⟨i1, i2⟩ := hI
  have hp : rv <+: rv ++ [z] := List.prefix_append rv [z]
  rw [ab_snoc_eq]
  refine ⟨by simp [i1], fun i q hq => ?_⟩
  by_cases hi9 : i < iv.length
  · rw [List.getElem?_append_left hi9] at hq
    obtain ⟨w, w1, w2⟩ := i2 i q hq
    exact ⟨w, ab_pre hp w1, w2⟩
  · rw [List.getElem?_append_right (by omega)] at hq
    have h0 : i - iv.length = 0 := by
      have := (List.getElem?_eq_some_iff.mp hq).1
      simp at this
      omega
    rw [h0] at hq
    have hq' : (lo, hi) = q := by simpa using hq
    subst hq'
    have hi : i = rv.length := by omega
    subst hi
    exact ⟨z, by simp, h1, h2⟩
theorem ab_ev_new {z : Int} : ab_ev (rv ++ [z]) (rv.length, 1, 0) = some z := by
  unfold ab_ev
  simp
theorem ab_G_new (hG : ab_G cls dA xa ks ws rv sv h) {lo hi z : Int} (h1 : lo ≤ z) (h2 : z ≤ hi) : ab_G cls dA xa ks ws (rv ++ [z]) sv (ab_snoc h.1 (lo, hi), h.2) ∧ ab_ev (rv ++ [z]) (h.1.length, 1, 0) = some z := by
  obtain ⟨g1, g2, g3, g4, g5, g6⟩ := hG
  have hp : rv <+: rv ++ [z] := List.prefix_append rv [z]
  refine ⟨⟨ab_I_new g1 h1 h2, ab_Rl_mono hp g2, g3, fun f hf => ab_fact_mono hp (List.prefix_refl sv) (g4 f hf), g5, ab_CL_mono hp (List.prefix_refl sv) g6⟩, ?_⟩
  rw [← g1.1]
  exact ab_ev_new
theorem ab_fr_snd {β : Type} {lo hi : Int} {k : ab_H → ab_L → Option β} {L : β} (hk : ab_fr h lo hi k = some L) : k (ab_snoc h.1 (lo, hi), h.2) (h.1.length, 1, 0) = some L := by
  unfold ab_fr at hk
  simp only [ab_g_eq, ee_f_eq, ee_len_eq] at hk
  exact hk
/-- between which numbers a form lies -/
def ab_bd (iv : List (Int × Int)) (f : ab_L) : Option (Int × Int) := bif decide (f.2.1 = 0) then some (f.2.2, f.2.2) else match ee_nth iv f.1 with
  | some q => bif decide (0 < f.2.1) then ab_g (f.2.1 * q.1 + f.2.2) fun a => ab_g (f.2.1 * q.2 + f.2.2) fun b => some (a, b) else none
  | none => none
theorem ab_bd_in {iv : List (Int × Int)} (hI : ab_I rv iv) {f : ab_L} {q : Int × Int} (hb : ab_bd iv f = some q) {x : Int} (hx : ab_ev rv f = some x) : q.1 ≤ x ∧ x ≤ q.2 := by
  unfold ab_bd at hb
  unfold ab_ev at hx
  by_cases h0 : f.2.1 = 0
  · rw [ee_ct (by simpa using h0)] at hb
    rw [if_pos h0] at hx
    cases hb; cases hx
    exact ⟨Int.le_refl _, Int.le_refl _⟩
  · rw [ee_cf (by simpa using h0)] at hb
    rw [if_neg h0] at hx
    split at hb
    · rename_i w hw
      rw [ee_nth_eq] at hw
      obtain ⟨z, z1, z2, z3⟩ := hI.2 _ _ hw
      rw [z1] at hx
      cases hx
      by_cases hp : 0 < f.2.1
      · rw [ee_ct (by simpa using hp)] at hb
        simp only [ab_g_eq] at hb
        cases hb
        have e1 := Int.mul_le_mul_of_nonneg_left z2 (Int.le_of_lt hp)
        have e2 := Int.mul_le_mul_of_nonneg_left z3 (Int.le_of_lt hp)
        dsimp only
        omega
      · rw [ee_cf (by simpa using hp)] at hb; cases hb
    · cases hb
def ab_in32 (q : Int × Int) : Bool := decide (-2147483648 ≤ q.1) && decide (q.2 ≤ 2147483647)
theorem ab_in32_spec {q : Int × Int} (h : ab_in32 q = true) : -2147483648 ≤ q.1 ∧ q.2 ≤ 2147483647 := by
  unfold ab_in32 at h
  rw [Bool.and_eq_true, decide_eq_true_eq, decide_eq_true_eq] at h
  exact h
theorem ab_i32 (x : Int32) : -2147483648 ≤ x.toInt ∧ x.toInt ≤ 2147483647 := ⟨Int32.le_toInt x, by have := Int32.toInt_lt x; omega⟩
theorem ab_bm {a : Int} (h1 : -2147483648 ≤ a) (h2 : a ≤ 2147483647) : a.bmod 4294967296 = a := by rw [Int.bmod_eq_of_le] <;> omega
theorem ab_tadd {x y : Int32} (h1 : -2147483648 ≤ x.toInt + y.toInt) (h2 : x.toInt + y.toInt ≤ 2147483647) : (x + y).toInt = x.toInt + y.toInt := by
  rw [Int32.toInt_add]; exact ab_bm h1 h2
theorem ab_tsub {x y : Int32} (h1 : -2147483648 ≤ x.toInt - y.toInt) (h2 : x.toInt - y.toInt ≤ 2147483647) : (x - y).toInt = x.toInt - y.toInt := by
  rw [Int32.toInt_sub]; exact ab_bm h1 h2
theorem ab_tmul {x y : Int32} (h1 : -2147483648 ≤ x.toInt * y.toInt) (h2 : x.toInt * y.toInt ≤ 2147483647) : (x * y).toInt = x.toInt * y.toInt := by
  rw [Int32.toInt_mul]; exact ab_bm h1 h2
/-- a new name for any int -/
def ab_any {β : Type} (h : ab_H) (k : ab_H → ab_L → β) : β := ab_fr h (-2147483648) 2147483647 k
/-- what a computed number is owed -/
def ab_gets (cls : Nat → List ab_Cl) (dA : Nat → ClassId) (xa : List Nat) (ks : List Nat) (ws : va_W) (rv : List Int) (sv : List (Nat × Nat)) (L : List ab_S) (k : ab_H → ab_L → Option (List ab_S)) (x : Int) : Prop :=
  ∃ (h' : ab_H) (f : ab_L) (rv' : List Int), rv <+: rv' ∧ ab_G cls dA xa ks ws rv' sv h' ∧ ab_ev rv' f = some x ∧ k h' f = some L
theorem ab_gets_fr (hG : ab_G cls dA xa ks ws rv sv h) {lo hi x : Int} {k : ab_H → ab_L → Option (List ab_S)} {L : List ab_S} (hk : ab_fr h lo hi k = some L) (h1 : lo ≤ x) (h2 : x ≤ hi) : ab_gets cls dA xa ks ws rv sv L k x := by
  have hk := ab_fr_snd hk
  obtain ⟨g1, g2⟩ := ab_G_new hG h1 h2
  exact ⟨_, _, rv ++ [x], List.prefix_append rv [x], g1, g2, hk⟩
theorem ab_gets_any (hG : ab_G cls dA xa ks ws rv sv h) {x : Int32} {k : ab_H → ab_L → Option (List ab_S)} {L : List ab_S} (hk : ab_any h k = some L) : ab_gets cls dA xa ks ws rv sv L k x.toInt :=
  ab_gets_fr hG hk (ab_i32 x).1 (ab_i32 x).2
theorem ab_gets_id (hG : ab_G cls dA xa ks ws rv sv h) {f : ab_L} {x : Int} {k : ab_H → ab_L → Option (List ab_S)} {L : List ab_S} (hk : k h f = some L) (hx : ab_ev rv f = some x) : ab_gets cls dA xa ks ws rv sv L k x :=
  ⟨h, f, rv, List.prefix_refl rv, hG, hx, hk⟩
end NM
