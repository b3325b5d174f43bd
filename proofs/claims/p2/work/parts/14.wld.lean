/-! ===== the world by kinds ===== -/
def ab_cell (dA : Nat → ClassId) (ks ad : List Nat) (κ : Nat) (e : va_E) : Prop :=
  (∀ ci ts, ab_ko κ = some (ci, ts) → ∃ vs : List Value, e = .inr (ci, vs) ∧ vs.length = ts.length ∧ ∀ (j : Nat) (t : ab_T), ts[j]? = some t → ∃ v, vs[j]? = some v ∧ ab_tv ks ad v t) ∧
  (∀ t lo hi, ab_ka κ = some (t, lo, hi) →
    ((t = 0 ∨ t = 2) ∧ ∃ (n : Nat) (f : Nat → Int32), e = .inl (dA t, n, .inl f) ∧ lo ≤ (n : Int) ∧ (n : Int) ≤ hi ∧ ∀ i, i < n → ab_tv ks ad (.int (f i)) (ab_ke κ i)) ∨
    (t = 1 ∧ ∃ (n : Nat) (f : Nat → Int64), e = .inl (dA 1, n, .inr (.inl f)) ∧ lo ≤ (n : Int) ∧ (n : Int) ≤ hi) ∨
    (3 ≤ t ∧ t ≤ 6 ∧ ∃ (n : Nat) (g : Nat → Option Nat), e = .inl (dA t, n, .inr (.inr (.inr (.inr g)))) ∧ lo ≤ (n : Int) ∧ (n : Int) ≤ hi ∧ ∀ i, i < n → ab_tv ks ad (va_rf (g i)) (ab_ke κ i)))
def ab_TW (dA : Nat → ClassId) (ks : List Nat) (ws : va_W) : Prop := ks.length = ws.length ∧ ∀ k κ : Nat, ks[k]? = some κ → ∃ (a : Nat) (e : va_E), ws[k]? = some (a, e) ∧ ab_cell dA ks (ws.map (·.1)) κ e
/-! clauses: of a cell's own places, of the length of a row in a field, of a row's element at 4 * field + c -/
abbrev ab_R : Type := Nat × Nat × Nat × Nat
abbrev ab_Cl : Type := List (ab_R × Int × Int) × (Int × ab_R) × (Int × ab_R) × Int × Int
def ab_fi (vs : List Value) (a : Nat) : Option Int := match vs[a]? with
  | some (.int x) => some x.toInt
  | _ => none
def ab_ar (ws : va_W) (vs : List Value) (a : Nat) : Option (Nat × va_E) := match vs[a]? with
  | some (.ref q) => ws.find? (fun z => z.1 == q)
  | _ => none
def ab_cr (ws : va_W) (e : va_E) (r : ab_R) : Option Int := match r.1, e with
  | 0, .inr (_, vs) => ab_fi vs r.2.1
  | 1, .inl (_, n, .inl f) => if r.2.1 < n then some (f r.2.1).toInt else none
  | 2, .inr (_, vs) => (match ab_ar ws vs r.2.1 with
    | some (_, .inl (_, n, _)) => some (n : Int)
    | _ => none)
  | 3, .inr (_, vs) => (match ab_ar ws vs r.2.1, ab_fi vs r.2.2.1 with
    | some (_, .inl (_, n, .inl f)), some x => if 0 ≤ x ∧ 4 * x + r.2.2.2 < (n : Int) then some (f (4 * x + r.2.2.2).toNat).toInt else none
    | _, _ => none)
  | _, _ => none
/-- a clause holds at a cell -/
def ab_hd (ws : va_W) (e : va_E) (c : ab_Cl) : Prop := (∀ g ∈ c.1, ∃ x, ab_cr ws e g.1 = some x ∧ g.2.1 ≤ x ∧ x ≤ g.2.2) →
  ∃ x y, ab_cr ws e c.2.1.2 = some x ∧ (c.2.2.1.1 = 0 ∨ ab_cr ws e c.2.2.1.2 = some y) ∧ c.2.2.2.1 ≤ c.2.1.1 * x - c.2.2.1.1 * y ∧ c.2.1.1 * x - c.2.2.1.1 * y ≤ c.2.2.2.2
/-- the places that a clause's word stands on: (0, field), (1, element) -/
def ab_fp (r : ab_R) : List (Nat × Nat) := match r.1 with
  | 0 => [(0, r.2.1)]
  | 1 => [(1, r.2.1)]
  | 2 => [(0, r.2.1)]
  | _ => [(0, r.2.1), (0, r.2.2.1)]
def ab_fps (c : ab_Cl) : List (Nat × Nat) := (c.1.map (fun g => ab_fp g.1)).flatten ++ (ab_fp c.2.1.2 ++ (if c.2.2.1.1 = 0 then [] else ab_fp c.2.2.1.2))
/-- a place is open: a fact's key that may be it stands among those -/
def ab_open (rv : List Int) (sv : List (Nat × Nat)) (dt : List (Nat × ab_Key)) (k : Nat) (p : Nat × Nat) : Prop := ∃ d ∈ dt, ∃ q, sv[d.1]? = some q ∧ q.1 = k ∧ d.2.1 = p.1 ∧ ab_ki rv d.2 = some (p.2 : Int)
def ab_CL (cls : Nat → List ab_Cl) (ks : List Nat) (ws : va_W) (rv : List Int) (sv : List (Nat × Nat)) (dt : List (Nat × ab_Key)) : Prop :=
  ∀ (k κ : Nat) (a : Nat) (e : va_E), ks[k]? = some κ → ws[k]? = some (a, e) → ∀ c ∈ cls κ, (∀ p ∈ ab_fps c, ¬ ab_open rv sv dt k p) → ab_hd ws e c
/-! what a description of numbers, references and cells says -/
def ab_I (rv : List Int) (iv : List (Int × Int)) : Prop := rv.length = iv.length ∧ ∀ (i : Nat) (q : Int × Int), iv[i]? = some q → ∃ z, rv[i]? = some z ∧ q.1 ≤ z ∧ z ≤ q.2
def ab_Rl (rv : List Int) (rl : List (Nat × Nat × Int)) : Prop := ∀ r ∈ rl, ∃ x y, rv[r.1]? = some x ∧ rv[r.2.1]? = some y ∧ y + r.2.2 ≤ x
def ab_Kn (ks : List Nat) (ws : va_W) (sv : List (Nat × Nat)) (rk : List Nat) : Prop := sv.length = rk.length ∧ ∀ (i κ : Nat), rk[i]? = some κ → ∃ (q : Nat × Nat) (e : va_E), sv[i]? = some q ∧ ks[q.1]? = some κ ∧ ws[q.1]? = some (q.2, e)
def ab_G (cls : Nat → List ab_Cl) (dA : Nat → ClassId) (xa : List Nat) (ks : List Nat) (ws : va_W) (rv : List Int) (sv : List (Nat × Nat)) (h : ab_H) : Prop :=
  ab_I rv h.1 ∧ ab_Rl rv h.2.1 ∧ ab_Kn ks ws sv h.2.2.1 ∧ (∀ f ∈ h.2.2.2.1, ab_fact rv sv xa ws f) ∧ ab_TW dA ks ws ∧ ab_CL cls ks ws rv sv h.2.2.2.2
/-- the locals -/
def ab_lo (rv : List Int) (sv : List (Nat × Nat)) (xa : List Nat) (ls : Array Slot) (n : Nat) (lo : List ab_A) : Prop := lo.length = n ∧ ∃ lv : List (Nat × Value), lv_has ls n lv ∧ ∀ i a, lo[i]? = some a → a = .inr (.inr 0) ∨ ∃ v, (i, v) ∈ lv ∧ ab_ok rv sv xa v a
def ab_a2 {α β : Type} (P : α → β → Prop) : List α → List β → Prop
  | [], [] => True
  | a :: l, b :: m => P a b ∧ ab_a2 P l m
  | _, _ => False
theorem ab_a2_mono {α β : Type} {P P' : α → β → Prop} (hp : ∀ a b, P a b → P' a b) : ∀ {l : List α} {m : List β}, ab_a2 P l m → ab_a2 P' l m
  | [], [], _ => trivial
  | _ :: _, _ :: _, h => ⟨hp _ _ h.1, ab_a2_mono hp h.2⟩
theorem ab_lo_mono {rv rv' : List Int} {sv sv' : List (Nat × Nat)} {xa : List Nat} (h1 : rv <+: rv') (h2 : sv <+: sv') {ls : Array Slot} {n : Nat} {lo : List ab_A} (h : ab_lo rv sv xa ls n lo) : ab_lo rv' sv' xa ls n lo := by
  obtain ⟨g1, lv, g2, g3⟩ := h
  refine ⟨g1, lv, g2, fun i a ha => ?_⟩
  rcases g3 i a ha with h | ⟨v, h4, h5⟩
  · exact Or.inl h
  · exact Or.inr ⟨v, h4, ab_ok_mono h1 h2 h5⟩
/-- the goal: from every state that the description fits -/
def ab_WS (cls : Nat → List ab_Cl) (p : Program) (l : Launch) (e : Env) (R : Room) (s : State) (m : MethodId) (args : Array Value) (below : List Frame) (meth : Method) (c : Code) (Q : State → Prop) (D : va_G) (dA : Nat → ClassId) (xa : List Nat) (B : Nat) (rv0 : List Int) (sv0 : List (Nat × Nat)) (y : Nat) (S : ab_S) : Prop :=
  ∀ (ks : List Nat) (ws : va_W) (rv : List Int) (sv : List (Nat × Nat)) (H : Heap) (locs : List Loc) (ls : Array Slot) (vs : List Value), rv0 <+: rv → sv0 <+: sv → ab_G cls dA xa ks ws rv sv S.2.2.2.1 → va_P D ee_cl ws H → va_D (fun q => B ≤ q) ws → va_S (fun q => B ≤ q) s.heap H locs → ab_lo rv sv xa ls (ee_ml y) S.2.1 → ab_a2 (ab_ok rv sv xa) vs S.2.2.1 →
    W p l e R s m args below meth c H locs S.2.2.2.2.1 S.2.2.2.2.2 Q (F0 m S.1 ls vs)
