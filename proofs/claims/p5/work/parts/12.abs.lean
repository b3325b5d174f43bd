/-! ===== described states: numbers by names, references by names, facts of cells; kinds of objects ===== -/
abbrev ab_L : Type := Nat × Int × Int
abbrev ab_A : Type := ab_L ⊕ (Nat ⊕ Nat)
abbrev ab_T : Type := (Int × Int) ⊕ (Nat ⊕ Nat)
abbrev ab_Key : Type := Nat × ab_L
abbrev ab_F : Type := Nat × ab_Key × ab_A
abbrev ab_H : Type := List (Int × Int) × List (Nat × Nat × Int) × List Nat × List ab_F × List (Nat × ab_Key)
abbrev ab_S : Type := Nat × List ab_A × List ab_A × ab_H × Nat × Nat
abbrev ab_R : Type := Nat × Nat × Nat × Nat
abbrev ab_Cl : Type := List (ab_R × Int × Int) × (Int × ab_R) × (Int × ab_R) × Int × Int
/-- a form's number: mul * name + off -/
def ab_ev (rv : List Int) (f : ab_L) : Option Int := if f.2.1 = 0 then some f.2.2 else (rv[f.1]?).map (fun z => f.2.1 * z + f.2.2)
theorem ab_pre {α : Type} {l l' : List α} (h : l <+: l') {i : Nat} {x : α} (hx : l[i]? = some x) : l'[i]? = some x := by
  obtain ⟨t, rfl⟩ := h
  rw [List.getElem?_append_left (List.getElem?_eq_some_iff.mp hx).1]
  exact hx
theorem ab_ev_mono {rv rv' : List Int} (h : rv <+: rv') {f : ab_L} {x : Int} (hx : ab_ev rv f = some x) : ab_ev rv' f = some x := by
  unfold ab_ev at hx ⊢
  split
  · rename_i h0; rw [if_pos h0] at hx; exact hx
  · rename_i h0
    rw [if_neg h0] at hx
    cases hz : rv[f.1]? with
    | none => rw [hz] at hx; cases hx
    | some z => rw [hz] at hx; rw [ab_pre h hz]; exact hx
/-- what a described value says of a value -/
def ab_ok (rv : List Int) (sv : List (Nat × Nat)) (xa : List Nat) (v : Value) : ab_A → Prop
  | .inl f => ∃ x : Int32, v = .int x ∧ ab_ev rv f = some x.toInt
  | .inr (.inl 0) => v = .null
  | .inr (.inl (n + 1)) => (∃ q : Nat × Nat, sv[n / 2]? = some q ∧ v = .ref q.2) ∨ (n % 2 = 1 ∧ v = .null)
  | .inr (.inr 0) => False
  | .inr (.inr 1) => ∃ x : Int64, v = .long x
  | .inr (.inr (j + 2)) => ∃ a, xa[j]? = some a ∧ v = .ref a
theorem ab_ok_mono {rv rv' : List Int} {sv sv' : List (Nat × Nat)} {xa : List Nat} (h1 : rv <+: rv') (h2 : sv <+: sv') {v : Value} {a : ab_A} (h : ab_ok rv sv xa v a) : ab_ok rv' sv' xa v a := by
  match a, h with
  | .inl f, ⟨x, e, hx⟩ => exact ⟨x, e, ab_ev_mono h1 hx⟩
  | .inr (.inl 0), h => exact h
  | .inr (.inl (n + 1)), .inl ⟨q, hq, e⟩ => exact Or.inl ⟨q, ab_pre h2 hq, e⟩
  | .inr (.inl (n + 1)), .inr h => exact Or.inr h
  | .inr (.inr 1), h => exact h
  | .inr (.inr (j + 2)), h => exact h
