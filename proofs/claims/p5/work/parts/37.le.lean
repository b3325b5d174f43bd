/-! ===== one description under another: names by forms, references by references ===== -/
def ab_sf (σ : List ab_L) (f : ab_L) : Option ab_L := bif decide (f.2.1 = 0) then some (nat_lit 0, 0, f.2.2) else match ee_nth σ f.1 with
  | some g => bif decide (g.2.1 = 0) then ab_g (f.2.1 * g.2.2 + f.2.2) fun o => some (nat_lit 0, 0, o) else ab_g (f.2.1 * g.2.1) fun u => ab_g (f.2.1 * g.2.2 + f.2.2) fun o => some (g.1, u, o)
  | none => none
def ab_feq (a b : ab_L) : Bool := (decide (a.2.1 = 0) && (decide (b.2.1 = 0) && decide (a.2.2 = b.2.2))) || ab_leq a b
def ab_en1 (σ : List ab_L) (ρ : List Nat) : ab_A → ab_A → Bool
  | .inl f, .inl g => (match ab_sf σ f with
    | some g' => ab_feq g' g
    | none => false)
  | .inr (.inl 0), .inr (.inl 0) => true
  | .inr (.inl (z + 1)), .inr (.inl (u + 1)) => Nat.beq (Nat.mod z (nat_lit 2)) (nat_lit 0) && (Nat.beq (Nat.mod u (nat_lit 2)) (nat_lit 0) && (match ee_nth ρ (Nat.div z (nat_lit 2)) with
    | some r => Nat.beq r (Nat.div u (nat_lit 2))
    | none => false))
  | .inr (.inr (j + 1)), .inr (.inr (i + 1)) => Nat.beq j i
  | _, _ => false
/-- what the names of the one are in the other -/
def ab_SG (rv : List Int) (sv : List (Nat × Nat)) (σ : List ab_L) (ρ : List Nat) (rv' : List Int) (sv' : List (Nat × Nat)) : Prop :=
  (rv'.length = σ.length ∧ ∀ (i : Nat) (f : ab_L), σ[i]? = some f → ∃ x, ab_ev rv f = some x ∧ rv'[i]? = some x) ∧ (sv'.length = ρ.length ∧ ∀ (i r : Nat), ρ[i]? = some r → ∃ q, sv[r]? = some q ∧ sv'[i]? = some q)
section LE
variable {rv rv' : List Int} {sv sv' : List (Nat × Nat)} {xa : List Nat} {σ : List ab_L} {ρ : List Nat}
theorem ab_feq_ev {a b : ab_L} {x : Int} (h : ab_feq a b = true) (hb : ab_ev rv b = some x) : ab_ev rv a = some x := by
  unfold ab_feq at h
  rw [Bool.or_eq_true, Bool.and_eq_true, Bool.and_eq_true, decide_eq_true_eq, decide_eq_true_eq, decide_eq_true_eq] at h
  rcases h with ⟨h1, h2, h3⟩ | h
  · rw [ab_ev0 h2] at hb
    rw [ab_ev0 h1, h3]
    exact hb
  · rw [ab_leq_eq h]
    exact hb
theorem ab_sf_ev (hS : ab_SG rv sv σ ρ rv' sv') {f g : ab_L} {x : Int} (h : ab_sf σ f = some g) (hx : ab_ev rv g = some x) : ab_ev rv' f = some x := by
  unfold ab_sf at h
  by_cases h0 : f.2.1 = 0
  · rw [ee_ct (by simpa using h0)] at h
    cases h
    rw [ab_ev0 rfl] at hx
    rw [ab_ev0 h0]
    exact hx
  · rw [ee_cf (by simpa using h0)] at h
    split at h
    · rename_i g9 hg
      rw [ee_nth_eq] at hg
      obtain ⟨z, z1, z2⟩ := hS.1.2 _ _ hg
      have hev : ab_ev rv' f = some (f.2.1 * z + f.2.2) := by
        unfold ab_ev
        rw [if_neg h0, z2]
        rfl
      rw [hev]
      by_cases h1 : g9.2.1 = 0
      · rw [ee_ct (by simpa using h1), ab_g_eq] at h
        cases h
        rw [ab_ev0 rfl] at hx
        rw [ab_ev0 h1] at z1
        have z1' : g9.2.2 = z := Option.some.inj z1
        rw [← z1']
        exact hx
      · rw [ee_cf (by simpa using h1), ab_g_eq, ab_g_eq] at h
        cases h
        obtain ⟨w9, w1, w2⟩ := ab_ev1 h1 z1
        have hm : f.2.1 * g9.2.1 ≠ 0 := Int.mul_ne_zero h0 h1
        obtain ⟨w8, w3, w4⟩ := ab_ev1 (f := (g9.1, f.2.1 * g9.2.1, f.2.1 * g9.2.2 + f.2.2)) hm hx
        have w3' : rv[g9.1]? = some w8 := w3
        rw [w1] at w3'
        cases w3'
        rw [w4, w2]
        congr 1
        show f.2.1 * (g9.2.1 * w9 + g9.2.2) + f.2.2 = f.2.1 * g9.2.1 * w9 + (f.2.1 * g9.2.2 + f.2.2)
        rw [Int.mul_add, Int.mul_assoc, Int.add_assoc]
    · cases h
theorem ab_en1_ok (hS : ab_SG rv sv σ ρ rv' sv') {a b : ab_A} {v : Value} (h : ab_en1 σ ρ a b = true) (hv : ab_ok rv sv xa v b) : ab_ok rv' sv' xa v a := by
  match a, b, h, hv with
  | .inl f, .inl g, h, ⟨x, e9, hx⟩ =>
    have h' : (match ab_sf σ f with
      | some g' => ab_feq g' g
      | none => false) = true := h
    split at h'
    · rename_i g9 hg9
      exact ⟨x, e9, ab_sf_ev hS hg9 (ab_feq_ev h' hx)⟩
    · cases h'
  | .inr (.inl 0), .inr (.inl 0), _, hv => exact hv
  | .inr (.inl (z + 1)), .inr (.inl (u + 1)), h, hv =>
    have h' : (Nat.beq (Nat.mod z (nat_lit 2)) (nat_lit 0) && (Nat.beq (Nat.mod u (nat_lit 2)) (nat_lit 0) && (match ee_nth ρ (Nat.div z (nat_lit 2)) with
      | some r => Nat.beq r (Nat.div u (nat_lit 2))
      | none => false))) = true := h
    rw [Bool.and_eq_true, Bool.and_eq_true] at h'
    obtain ⟨q, q1, q2⟩ := ab_nnul h'.2.1 hv
    have h3 := h'.2.2
    split at h3
    · rename_i r9 hr9
      rw [ee_nth_eq] at hr9
      have e9 : r9 = u / 2 := Nat.eq_of_beq_eq_true h3
      obtain ⟨q9, y1, y2⟩ := hS.2.2 _ _ hr9
      rw [e9, q1] at y1
      cases y1
      exact Or.inl ⟨q, y2, q2⟩
    · cases h3
  | .inr (.inr (j + 1)), .inr (.inr (i + 1)), h, hv =>
    have e9 : j = i := Nat.eq_of_beq_eq_true h
    subst e9
    match j, hv with
    | 0, hv => exact hv
    | j + 1, hv => exact hv
end LE
/-- lists of the same length, one by one -/
def ab_z2 {α β : Type} (t : α → β → Bool) : List α → List β → Bool
  | [], [] => true
  | a :: l, b :: m => t a b && ab_z2 t l m
  | _, _ => false
theorem ab_z2_get {α β : Type} {t : α → β → Bool} : ∀ {l : List α} {m : List β}, ab_z2 t l m = true → l.length = m.length ∧ ∀ (i : Nat) (a : α), l[i]? = some a → ∃ b, m[i]? = some b ∧ t a b = true
  | [], [], _ => ⟨rfl, fun i a h => by simp at h⟩
  | a :: l, b :: m, h => by
    unfold ab_z2 at h
    rw [Bool.and_eq_true] at h
    obtain ⟨h1, h2⟩ := ab_z2_get h.2
    refine ⟨by simp [h1], fun i a9 h9 => ?_⟩
    cases i with
    | zero =>
      have e9 : a = a9 := by simpa using h9
      subst e9
      exact ⟨b, rfl, h.1⟩
    | succ i => exact h2 i a9 (by simpa using h9)
theorem ab_z2_a2 {α β γ : Type} {t : α → β → Bool} {P : γ → α → Prop} {P' : γ → β → Prop} (hp : ∀ v a b, t a b = true → P' v b → P v a) : ∀ {l : List α} {m : List β} {vs : List γ}, ab_z2 t l m = true → ab_a2 P' vs m → ab_a2 P vs l
  | [], [], [], _, _ => trivial
  | a :: l, b :: m, v :: vs, h, h2 => by
    unfold ab_z2 at h
    rw [Bool.and_eq_true] at h
    exact ⟨hp v a b h.1 h2.1, ab_z2_a2 hp h.2 h2.2⟩
theorem ab_pre_of {α : Type} : ∀ {l m : List α}, (∀ (i : Nat) (x : α), l[i]? = some x → m[i]? = some x) → l <+: m
  | [], m, _ => List.nil_prefix
  | a :: l, [], h => by
    have h9 := h 0 a rfl
    simp at h9
  | a :: l, b :: m, h => by
    have h9 := h 0 a rfl
    have e9 : b = a := by simpa using h9
    subst e9
    obtain ⟨t9, e8⟩ := ab_pre_of (l := l) (m := m) (fun i x hx => by
      have h7 := h (i + 1) x (by simpa using hx)
      simpa using h7)
    exact ⟨t9, by rw [List.cons_append, e8]⟩
