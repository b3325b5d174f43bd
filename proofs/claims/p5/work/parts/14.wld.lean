/-! ===== the world by kinds ===== -/
/-- rows of lines are good, in the class's arrays of lines and in the reference's row -/
def ab_c3 (κ : Nat) (e : va_E) : Prop := (κ = 17 → ∃ (cA : ClassId) (n : Nat) (f : Nat → Int32), e = .inl (cA, n, .inl f) ∧ n % 4 = 0 ∧ n ≤ 80 ∧ ∀ l, 4 * l + 3 < n → ab_row6 f l) ∧ (κ = 37 → ∃ (cA : ClassId) (n : Nat) (f : Nat → Int32), e = .inl (cA, n, .inl f) ∧ ab_sr f)
theorem ab_c3_no {κ : Nat} {e : va_E} (h1 : κ ≠ 17) (h2 : κ ≠ 37) : ab_c3 κ e := ⟨fun h => absurd h h1, fun h => absurd h h2⟩
def ab_cell (dA : Nat → ClassId) (ks ad : List Nat) (κ : Nat) (e : va_E) : Prop :=
  (∀ ci ts, ab_ko κ = some (ci, ts) → ∃ vs : List Value, e = .inr (ci, vs) ∧ vs.length = ts.length ∧ ∀ (j : Nat) (t : ab_T), ts[j]? = some t → ∃ v, vs[j]? = some v ∧ ab_tv ks ad v t) ∧
  (∀ t lo hi, ab_ka κ = some (t, lo, hi) →
    ((t = 0 ∨ t = 2) ∧ ∃ (n : Nat) (f : Nat → Int32), e = .inl (dA t, n, .inl f) ∧ lo ≤ (n : Int) ∧ (n : Int) ≤ hi ∧ ∀ i, i < n → ab_tv ks ad (.int (f i)) (ab_ke κ i)) ∨
    (t = 1 ∧ ∃ (n : Nat) (f : Nat → Int64), e = .inl (dA 1, n, .inr (.inl f)) ∧ lo ≤ (n : Int) ∧ (n : Int) ≤ hi) ∨
    (3 ≤ t ∧ t ≤ 6 ∧ ∃ (n : Nat) (g : Nat → Option Nat), e = .inl (dA t, n, .inr (.inr (.inr (.inr g)))) ∧ lo ≤ (n : Int) ∧ (n : Int) ≤ hi ∧ ∀ i, i < n → ab_tv ks ad (va_rf (g i)) (ab_ke κ i))) ∧ ab_c3 κ e
def ab_TW (dA : Nat → ClassId) (ks : List Nat) (ws : va_W) : Prop := ks.length = ws.length ∧ ∀ k κ : Nat, ks[k]? = some κ → ∃ (a : Nat) (e : va_E), ws[k]? = some (a, e) ∧ ab_cell dA ks (ws.map (·.1)) κ e
/-- the places that a clause's word stands on: (0, field), (1, element) -/
def ab_fp (r : ab_R) : List (Nat × Nat) := match r.1 with
  | 0 => [(0, r.2.1)]
  | 1 => [(1, r.2.1)]
  | 2 => [(0, r.2.1)]
  | 4 => [(1, r.2.1)]
  | _ => [(0, r.2.1), (0, r.2.2.1)]
theorem ab_fp_t {r : ab_R} {p : Nat × Nat} (h : p ∈ ab_fp r) : p.1 ≤ 1 := by
  unfold ab_fp at h
  split at h
  · simp only [List.mem_cons, List.not_mem_nil, or_false] at h
    rw [h]; exact Nat.zero_le 1
  · simp only [List.mem_cons, List.not_mem_nil, or_false] at h
    rw [h]; exact Nat.le_refl 1
  · simp only [List.mem_cons, List.not_mem_nil, or_false] at h
    rw [h]; exact Nat.zero_le 1
  · simp only [List.mem_cons, List.not_mem_nil, or_false] at h
    rw [h]; exact Nat.le_refl 1
  · simp only [List.mem_cons, List.not_mem_nil, or_false] at h
    rcases h with h | h <;> (rw [h]; exact Nat.zero_le 1)
def ab_fps (c : ab_Cl) : List (Nat × Nat) := (c.1.map (fun g => ab_fp g.1)).flatten ++ (ab_fp c.2.1.2 ++ (if c.2.2.1.1 = 0 then [] else ab_fp c.2.2.1.2))
/-- a place is open: a fact's key that may be it stands among those -/
def ab_open (rv : List Int) (sv : List (Nat × Nat)) (dt : List (Nat × ab_Key)) (k : Nat) (p : Nat × Nat) : Prop := ∃ d ∈ dt, ∃ q, sv[d.1]? = some q ∧ q.1 = k ∧ d.2.1 = p.1 ∧ ab_ki rv d.2 = some (p.2 : Int)
def ab_CL (cls : Nat → List ab_Cl) (ks : List Nat) (ws : va_W) (rv : List Int) (sv : List (Nat × Nat)) (dt : List (Nat × ab_Key)) : Prop :=
  ∀ (k κ : Nat) (a : Nat) (e : va_E), ks[k]? = some κ → ws[k]? = some (a, e) → ∀ c ∈ cls κ, (∀ p ∈ ab_fps c, ¬ ab_open rv sv dt k p) → ab_hd ws e c
/-! what a description of numbers, references and cells says -/
def ab_I (rv : List Int) (iv : List (Int × Int)) : Prop := rv.length = iv.length ∧ ∀ (i : Nat) (q : Int × Int), iv[i]? = some q → ∃ z, rv[i]? = some z ∧ q.1 ≤ z ∧ z ≤ q.2
def ab_Rl (rv : List Int) (rl : List (Nat × Nat × Int)) : Prop := ∀ r ∈ rl, ∃ x y, rv[r.1]? = some x ∧ rv[r.2.1]? = some y ∧ y + r.2.2 ≤ x
def ab_Kn (ks : List Nat) (ws : va_W) (sv : List (Nat × Nat)) (rk : List Nat) : Prop := sv.length = rk.length ∧ ∀ (i κ : Nat), rk[i]? = some κ → ∃ (q : Nat × Nat) (e : va_E), sv[i]? = some q ∧ ks[q.1]? = some κ ∧ ws[q.1]? = some (q.2, e)
def ab_G (cls : Nat → List ab_Cl) (dA : Nat → ClassId) (xa : List Nat) (ks : List Nat) (ws : va_W) (rv : List Int) (sv : List (Nat × Nat)) (h : ab_H) : Prop :=
  ab_I rv h.1 ∧ ab_Rl rv h.2.1 ∧ ab_Kn ks ws sv h.2.2.1 ∧ (∀ f ∈ h.2.2.2.1, ab_fact rv sv xa ws f) ∧ ab_TW dA ks ws ∧ ab_CL cls ks ws rv sv h.2.2.2.2
/-- the locals -/
def ab_lo (rv : List Int) (sv : List (Nat × Nat)) (xa : List Nat) (ls : Array Slot) (n : Nat) (lo : List ab_A) : Prop := lo.length = n ∧ ∃ lv : List (Nat × Value), lv_has ls n lv ∧ ∀ i a, lo[i]? = some a → a = .inr (.inr 0) ∨ ∃ v, (i, v) ∈ lv ∧ ab_ok rv sv xa v a
def ab_a2 {α β : Type} (P : α → β → Prop) : List α → List β → Prop
  | [], [] => True
  | a :: l, b :: m => P a b ∧ ab_a2 P l m
  | _, _ => False
theorem ab_a2_mono {α β : Type} {P P' : α → β → Prop} (hp : ∀ a b, P a b → P' a b) : ∀ {l : List α} {m : List β}, ab_a2 P l m → ab_a2 P' l m
  | [], [], _ => trivial
  | _ :: _, _ :: _, h => ⟨hp _ _ h.1, ab_a2_mono hp h.2⟩
theorem ab_lo_mono {rv rv' : List Int} {sv sv' : List (Nat × Nat)} {xa : List Nat} (h1 : rv <+: rv') (h2 : sv <+: sv') {ls : Array Slot} {n : Nat} {lo : List ab_A} (h : ab_lo rv sv xa ls n lo) : ab_lo rv' sv' xa ls n lo := by
  obtain ⟨g1, lv, g2, g3⟩ := h
  refine ⟨g1, lv, g2, fun i a ha => ?_⟩
  rcases g3 i a ha with h | ⟨v, h4, h5⟩
  · exact Or.inl h
  · exact Or.inr ⟨v, h4, ab_ok_mono h1 h2 h5⟩
/-- what the Explorer's rows may have cost so far -/
def ab_ln (ws : va_W) (vs : List Value) (a : Nat) : Nat := match ab_ar ws vs a with
  | some (_, .inl (_, n, _)) => n
  | _ => 0
def ab_ph (ke : Option Nat) (ks : List Nat) (ws : va_W) : Nat := match ke with
  | none => 0
  | some k => if ks[k]? = some 29 then (match ws[k]? with
    | some (_, .inr (_, vs)) => 2 * ab_ln ws vs 2 + 2 * ab_ln ws vs 4
    | _ => 0) else 0
/-! what a call may change: cells of the kinds that are told, and of the reference's row not the places from 1580 to X; the Explorer is one cell -/
abbrev ab_B : Type := List (Nat × Nat) × (List Nat × va_W) × (Nat → Bool) × Option Nat × Nat × Nat
/- X: bits 1 to 4, blocks of the reference's row that stay; bits 45 and on, fresh kinds whose cells keep their kind -/
def ab_sm (z : Bool) (X κ : Nat) (e e' : va_E) : Prop := (∀ (cA : ClassId) (n : Nat) (c : (Nat → Int32) ⊕ ((Nat → Int64) ⊕ ((Nat → UInt32) ⊕ ((Nat → UInt64) ⊕ (Nat → Option Nat))))), e = .inl (cA, n, c) → ∃ c', e' = .inl (cA, n, c')) ∧ (κ = 37 → ∀ (cA : ClassId) (n : Nat) (f : Nat → Int32), e = .inl (cA, n, .inl f) → ∃ f' : Nat → Int32, e' = .inl (cA, n, .inl f') ∧ ∀ i, (1580 ≤ i ∧ X.testBit (i / 1580) = true) ∨ (i = 8 ∧ z = false) → f' i = f i)
theorem ab_sm_rf {z : Bool} {X κ : Nat} {e : va_E} : ab_sm z X κ e e := ⟨fun _ _ c h => ⟨c, h⟩, fun _ _ _ f h => ⟨f, h, fun _ _ => rfl⟩⟩
theorem ab_sm_tr {z : Bool} {X κ : Nat} {e1 e2 e3 : va_E} (h1 : ab_sm z X κ e1 e2) (h2 : ab_sm z X κ e2 e3) : ab_sm z X κ e1 e3 := ⟨fun cA n c he => by
  obtain ⟨c2, g1⟩ := h1.1 cA n c he
  exact h2.1 cA n c2 g1, fun hk cA n f he => by
  obtain ⟨f2, g1, g2⟩ := h1.2 hk cA n f he
  obtain ⟨f3, g3, g4⟩ := h2.2 hk cA n f2 g1
  exact ⟨f3, g3, fun i hi => (g4 i hi).trans (g2 i hi)⟩⟩
theorem ab_sm_X {z z' : Bool} {X X' κ : Nat} {e e' : va_E} (hz : z' = false → z = false) (hX : ∀ b, X'.testBit b = true → X.testBit b = true) (h : ab_sm z X κ e e') : ab_sm z' X' κ e e' := ⟨h.1, fun hk cA n f he => by
  obtain ⟨f', g1, g2⟩ := h.2 hk cA n f he
  exact ⟨f', g1, fun i hi => g2 i (hi.imp (fun w => ⟨w.1, hX _ w.2⟩) (fun w => ⟨w.1, hz w.2⟩))⟩⟩
theorem ab_sm_ob {z : Bool} {X κ ci : Nat} {fs : List Value} {e' : va_E} : ab_sm z X κ (.inr (ci, fs)) e' := ⟨fun _ _ _ h => (by cases h), fun _ _ _ _ h => (by cases h)⟩
theorem ab_sm_no {z : Bool} {X κ n : Nat} {cA : ClassId} {c1 c2 : (Nat → Int32) ⊕ ((Nat → Int64) ⊕ ((Nat → UInt32) ⊕ ((Nat → UInt64) ⊕ (Nat → Option Nat))))} (h : κ ≠ 37) : ab_sm z X κ (.inl (cA, n, c1)) (.inl (cA, n, c2)) := ⟨fun _ _ _ h9 => (by cases h9; exact ⟨_, rfl⟩), fun hk => absurd hk h⟩
theorem ab_sm_in {z : Bool} {X κ n : Nat} {cA : ClassId} {f f' : Nat → Int32} (h : κ = 37 → ∀ i, (1580 ≤ i ∧ X.testBit (i / 1580) = true) ∨ (i = 8 ∧ z = false) → f' i = f i) : ab_sm z X κ (.inl (cA, n, .inl f)) (.inl (cA, n, .inl f')) := ⟨fun _ _ _ h9 => (by cases h9; exact ⟨_, rfl⟩), fun hk _ _ _ h9 => (by cases h9; exact ⟨_, rfl, h hk⟩)⟩
theorem ab_sm_k {z z' : Bool} {X X' κ κ' : Nat} {e e' : va_E} (h : κ ≠ 37) (hs : ab_sm z X κ' e e') : ab_sm z' X' κ e e' := ⟨hs.1, fun hk => absurd hk h⟩
/-- kinds of old cells stay, but for fresh ones that may be told otherwise -/
def ab_kp (m : Nat → Bool) (X : Nat) (ks0 ks : List Nat) : Prop := ∀ k κ : Nat, ks0[k]? = some κ → ks[k]? = some κ ∨ (m κ = true ∧ (45 ≤ κ ∧ κ < 64) ∧ X.testBit κ = false ∧ ∃ κ', ks[k]? = some κ' ∧ (κ' < 45 ∨ 64 ≤ κ'))
theorem ab_kp_rf {m : Nat → Bool} {X : Nat} {ks : List Nat} : ab_kp m X ks ks := fun _ _ h => Or.inl h
theorem ab_kp_tr {m m' : Nat → Bool} {X X' : Nat} {ks0 ks ks1 : List Nat} (h : ab_kp m X ks0 ks) (h' : ab_kp m' X' ks ks1) (hm : ∀ κ, m' κ = true → m κ = true) (hX : ∀ b, X.testBit b = true → X'.testBit b = true) : ab_kp m X ks0 ks1 := by
  intro k κ hk
  rcases h k κ hk with h1 | ⟨h1, h2, h3, κ', h4, h5⟩
  · rcases h' k κ h1 with h6 | ⟨h6, h7, h8, h9⟩
    · exact Or.inl h6
    · refine Or.inr ⟨hm κ h6, h7, ?_, h9⟩
      cases hb : X.testBit κ with
      | false => rfl
      | true => rw [hX κ hb] at h8; cases h8
  · rcases h' k κ' h4 with h6 | ⟨-, h7, -, -⟩
    · exact Or.inr ⟨h1, h2, h3, κ', h6, h5⟩
    · omega
theorem ab_kp_lt {m : Nat → Bool} {X : Nat} {ks0 ks : List Nat} (h : ab_kp m X ks0 ks) {k κ : Nat} (hk : ks0[k]? = some κ) (hx : 45 ≤ κ → X.testBit κ = true) : ks[k]? = some κ := by
  rcases h k κ hk with h1 | ⟨-, h2, h3, -⟩
  · exact h1
  · rw [hx h2.1] at h3
    cases h3
theorem ab_kp_app {m : Nat → Bool} {X : Nat} {ks0 ks l : List Nat} (h : ab_kp m X ks0 ks) : ab_kp m X ks0 (ks ++ l) := by
  intro k κ hk
  rcases h k κ hk with h1 | ⟨h1, h2, h3, κ', h4, h5⟩
  · exact Or.inl (ab_pre (List.prefix_append ks l) h1)
  · exact Or.inr ⟨h1, h2, h3, κ', ab_pre (List.prefix_append ks l) h4, h5⟩
def ab_fx (b : (List Nat × va_W) × (Nat → Bool) × Option Nat × Nat × Nat) (ks : List Nat) (ws : va_W) : Prop :=
  ab_kp b.2.1 b.2.2.2.1 b.1.1 ks ∧ (∀ (k κ : Nat) (q : Nat × va_E), b.1.1[k]? = some κ → b.1.2[k]? = some q → ws[k]? = some q ∨ (b.2.1 κ = true ∧ ∃ e', ws[k]? = some (q.1, e') ∧ ab_sm (b.2.1 99) b.2.2.2.1 κ q.2 e')) ∧ ∀ k, ks[k]? = some 29 → b.2.2.1 = some k
def ab_px (b : ab_B) (ks : List Nat) (ws : va_W) (sv : List (Nat × Nat)) : Prop := b.1 <+: sv ∧ ab_fx b.2 ks ws ∧ b.2.2.2.2.2 ≤ ab_ph b.2.2.2.1 ks ws
theorem ab_px_sv {b : ab_B} {ks : List Nat} {ws : va_W} {sv sv' : List (Nat × Nat)} (h : ab_px b ks ws sv) (h2 : sv <+: sv') : ab_px b ks ws sv' := ⟨h.1.trans h2, h.2⟩
theorem ab_fx_set {b : (List Nat × va_W) × (Nat → Bool) × Option Nat × Nat × Nat} {ks : List Nat} {ws : va_W} (h : ab_fx b ks ws) {kk ax κ : Nat} {e1 e2 : va_E} (hk : ws[kk]? = some (ax, e1)) (hκ : ks[kk]? = some κ) (hw : b.2.1 κ = true) (hs : ab_sm (b.2.1 99) b.2.2.2.1 κ e1 e2) : ab_fx b ks (ws.set kk (ax, e2)) := by
  have hlt := (List.getElem?_eq_some_iff.mp hk).1
  refine ⟨h.1, fun k κ0 q h1 h2 => ?_, h.2.2⟩
  by_cases hkk : k = kk
  · subst hkk
    obtain ⟨hw, hs⟩ : b.2.1 κ0 = true ∧ ab_sm (b.2.1 99) b.2.2.2.1 κ0 e1 e2 := by
      rcases h.1 k κ0 h1 with h3 | ⟨h3, h4, -, -⟩
      · rw [hκ] at h3
        have e0 : κ = κ0 := Option.some.inj h3
        subst e0
        exact ⟨hw, hs⟩
      · exact ⟨h3, ab_sm_k (by omega) hs⟩
    refine Or.inr ⟨hw, e2, ?_, ?_⟩
    · rcases h.2.1 k κ0 q h1 h2 with h3 | ⟨-, e', h3, -⟩
      · rw [hk] at h3
        cases h3
        rw [List.getElem?_set_self hlt]
      · rw [hk] at h3
        cases h3
        rw [List.getElem?_set_self hlt]
    · rcases h.2.1 k κ0 q h1 h2 with h3 | ⟨-, e', h3, h4⟩
      · rw [hk] at h3
        cases h3
        exact hs
      · rw [hk] at h3
        cases h3
        exact ab_sm_tr h4 hs
  · rw [List.getElem?_set_ne (fun z9 => hkk z9.symm)]
    exact h.2.1 k κ0 q h1 h2
theorem ab_px_set {b : ab_B} {ks : List Nat} {ws : va_W} {sv : List (Nat × Nat)} (h : ab_px b ks ws sv) {kk ax κ : Nat} {e1 e2 : va_E} (hk : ws[kk]? = some (ax, e1)) (hκ : ks[kk]? = some κ) (hw : b.2.2.1 κ = true) (hs : ab_sm (b.2.2.1 99) b.2.2.2.2.1 κ e1 e2) (he : ab_ph b.2.2.2.1 ks (ws.set kk (ax, e2)) = ab_ph b.2.2.2.1 ks ws) : ab_px b ks (ws.set kk (ax, e2)) sv := ⟨h.1, ab_fx_set h.2.1 hk hκ hw hs, by rw [he]; exact h.2.2⟩
theorem ab_px_new {b : ab_B} {ks : List Nat} {ws : va_W} {sv sv' : List (Nat × Nat)} (h : ab_px b ks ws sv) (h2 : sv <+: sv') {κ : Nat} {q : Nat × va_E} (hκ : κ ≠ 29) (he : ab_ph b.2.2.2.1 (ks ++ [κ]) (ws ++ [q]) = ab_ph b.2.2.2.1 ks ws) : ab_px b (ks ++ [κ]) (ws ++ [q]) sv' := by
  refine ⟨h.1.trans h2, ⟨ab_kp_app h.2.1.1, fun k κ0 q0 h3 h4 => ?_, fun k h3 => ?_⟩, by rw [he]; exact h.2.2⟩
  · rcases h.2.1.2.1 k κ0 q0 h3 h4 with h5 | ⟨h5, e', h6, h7⟩
    · exact Or.inl (ab_pre (List.prefix_append ws _) h5)
    · exact Or.inr ⟨h5, e', ab_pre (List.prefix_append ws _) h6, h7⟩
  · by_cases hlt : k < ks.length
    · rw [List.getElem?_append_left hlt] at h3
      exact h.2.1.2.2 k h3
    · rw [List.getElem?_append_right (by omega)] at h3
      cases hz : k - ks.length with
      | zero => rw [hz] at h3; exact absurd (Option.some.inj h3) hκ
      | succ z => rw [hz] at h3; cases h3
/-- the goal: from every state that the description fits -/
def ab_WS (cls : Nat → List ab_Cl) (p : Program) (l : Launch) (e : Env) (R : Room) (s : State) (m : MethodId) (args : Array Value) (below : List Frame) (meth : Method) (c : Code) (Q : State → Prop) (D : va_G) (dA : Nat → ClassId) (xa : List Nat) (B : Nat) (rv0 : List Int) (sv0 : ab_B) (y : Nat) (S : ab_S) : Prop :=
  ∀ (ks : List Nat) (ws : va_W) (rv : List Int) (sv : List (Nat × Nat)) (H : Heap) (locs : List Loc) (ls : Array Slot) (vs : List Value), rv0 <+: rv → ab_px sv0 ks ws sv → ab_G cls dA xa ks ws rv sv S.2.2.2.1 → va_P D ee_cl ws H → va_D (fun q => B ≤ q) ws → va_S (fun q => B ≤ q) s.heap H locs → ab_lo rv sv xa ls (ee_ml y) S.2.1 → ab_a2 (ab_ok rv sv xa) vs S.2.2.1 →
    W p l e R s m args below meth c H locs (S.2.2.2.2.1 + (ab_ph sv0.2.2.2.1 ks ws / 1024 - sv0.2.2.2.2.2 / 1024)) (S.2.2.2.2.2 + (ab_ph sv0.2.2.2.1 ks ws - sv0.2.2.2.2.2)) Q (F0 m S.1 ls vs)
