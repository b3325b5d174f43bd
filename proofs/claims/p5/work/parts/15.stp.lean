/-! ===== lists that the kernel runs; steps that leave the heap alone ===== -/
def ee_nth {α : Type} : List α → Nat → Option α
  | [], _ => none
  | a :: _, 0 => some a
  | _ :: l, n + 1 => ee_nth l n
def ee_upd {α : Type} : List α → Nat → α → Option (List α)
  | [], _, _ => none
  | _ :: l, 0, x => some (x :: l)
  | a :: l, n + 1, x => match ee_upd l n x with
    | none => none
    | some l' => some (a :: l')
def ee_len {α : Type} : List α → Nat
  | [] => nat_lit 0
  | _ :: l => Nat.succ (ee_len l)
theorem ee_nth_eq {α : Type} (l : List α) : ∀ n : Nat, ee_nth l n = l[n]? := by
  induction l with
  | nil => intro n; simp [ee_nth]
  | cons a l ih =>
    intro n
    cases n with
    | zero => simp [ee_nth]
    | succ n => simp [ee_nth, ih]
theorem ee_upd_eq {α : Type} {l : List α} : ∀ {n : Nat} {x : α} {l' : List α}, ee_upd l n x = some l' → n < l.length ∧ l' = l.set n x := by
  induction l with
  | nil => intro n x l' h; simp [ee_upd] at h
  | cons a l ih =>
    intro n x l' h
    cases n with
    | zero =>
      simp only [ee_upd, Option.some.injEq] at h
      subst h
      simp
    | succ n =>
      simp only [ee_upd] at h
      split at h
      · cases h
      · rename_i l2 h2
        cases h
        obtain ⟨h3, rfl⟩ := ih h2
        simp only [List.length_cons, List.set_cons_succ, and_true]
        omega
theorem ee_len_eq {α : Type} (l : List α) : ee_len l = l.length := by
  induction l with
  | nil => rfl
  | cons a l ih => show Nat.succ (ee_len l) = _; rw [ih]; rfl
def ab_g {β : Type} (x : Int) (k : Int → β) : β := match x with
  | .ofNat n => ee_f n (fun m => k (.ofNat m))
  | .negSucc n => ee_f n (fun m => k (.negSucc m))
theorem ab_g_eq {β : Type} (x : Int) (k : Int → β) : ab_g x k = k x := by
  cases x with
  | ofNat n => exact ee_f_eq n (fun m => k (.ofNat m))
  | negSucc n => exact ee_f_eq n (fun m => k (.negSucc m))
def ab_isr : ab_A → Bool
  | .inr (.inl _) => true
  | .inr (.inr (_ + 2)) => true
  | _ => false
/-- one word on the stack -/
def ab_is1 : ab_A → Bool
  | .inl _ => true
  | .inr (.inl _) => true
  | .inr (.inr (_ + 2)) => true
  | _ => false
def ab_isl : ab_A → Bool
  | .inr (.inr 1) => true
  | _ => false
/-- a store of one word into a local: no long may stand before it -/
def ab_sl (lo : List ab_A) (i : Nat) (v : ab_A) : Option (List ab_A) := match i with
  | 0 => ee_upd lo 0 v
  | j + 1 => match ee_nth lo j with
    | some w => bif ab_isl w then none else ee_upd lo (Nat.succ j) v
    | none => none
theorem ab_ok_ref {rv : List Int} {sv : List (Nat × Nat)} {xa : List Nat} {v : Value} {a : ab_A} (hv : ab_isr a = true) (h : ab_ok rv sv xa v a) : v = .null ∨ ∃ x, v = .ref x := by
  match a, hv, h with
  | .inr (.inl 0), _, h => exact Or.inl h
  | .inr (.inl (n + 1)), _, .inl ⟨q, _, e⟩ => exact Or.inr ⟨q.2, e⟩
  | .inr (.inl (n + 1)), _, .inr ⟨_, e⟩ => exact Or.inl e
  | .inr (.inr (j + 2)), _, ⟨a, _, e⟩ => exact Or.inr ⟨a, e⟩
theorem ab_ok_cat {rv : List Int} {sv : List (Nat × Nat)} {xa : List Nat} {v : Value} {a : ab_A} (hv : ab_is1 a = true) (h : ab_ok rv sv xa v a) : v.category = 1 := by
  match a, hv, h with
  | .inl f, _, ⟨x, e, _⟩ => rw [e]; rfl
  | .inr (.inl 0), _, h => rw [show v = .null from h]; rfl
  | .inr (.inl (n + 1)), _, .inl ⟨q, _, e⟩ => rw [e]; rfl
  | .inr (.inl (n + 1)), _, .inr ⟨_, e⟩ => rw [e]; rfl
  | .inr (.inr (j + 2)), _, ⟨a, _, e⟩ => rw [e]; rfl
theorem ab_isr_1 {a : ab_A} (h : ab_isr a = true) : ab_is1 a = true := by
  match a, h with
  | .inr (.inl _), _ => rfl
  | .inr (.inr (_ + 2)), _ => rfl
theorem ab_ok_notl {rv : List Int} {sv : List (Nat × Nat)} {xa : List Nat} {v : Value} {a : ab_A} (hv : ab_isl a = false) (h : ab_ok rv sv xa v a) : v.category = 1 := by
  match a, hv, h with
  | .inl f, _, h => exact ab_ok_cat (a := .inl f) rfl h
  | .inr (.inl n), _, h => exact ab_ok_cat (a := .inr (.inl n)) rfl h
  | .inr (.inr (j + 2)), _, h => exact ab_ok_cat (a := .inr (.inr (j + 2))) rfl h
theorem ab_lo_get {rv : List Int} {sv : List (Nat × Nat)} {xa : List Nat} {ls : Array Slot} {n : Nat} {lo : List ab_A} (h : ab_lo rv sv xa ls n lo) {i : Nat} {a : ab_A} (ha : ee_nth lo i = some a) (hv : a ≠ .inr (.inr 0)) : ∃ v, ls[i]? = some (.val v) ∧ ab_ok rv sv xa v a := by
  obtain ⟨h1, lv, h2, h3⟩ := h
  rw [ee_nth_eq] at ha
  rcases h3 i a ha with h | ⟨v, h4, h5⟩
  · exact absurd h hv
  · exact ⟨v, h2.2.2 _ h4, h5⟩
theorem ab_sl_spec {lo lo' : List ab_A} {i : Nat} {v : ab_A} (h : ab_sl lo i v = some lo') : i < lo.length ∧ lo' = lo.set i v ∧ ∀ j w, j + 1 = i → lo[j]? = some w → ab_isl w = false := by
  unfold ab_sl at h
  cases i with
  | zero =>
    obtain ⟨h1, h2⟩ := ee_upd_eq h
    exact ⟨h1, h2, fun j w hj => by omega⟩
  | succ j =>
    dsimp only at h
    split at h
    · rename_i w hw
      cases hl : ab_isl w with
      | true => rw [ee_ct hl] at h; cases h
      | false =>
        rw [ee_cf hl] at h
        obtain ⟨h1, h2⟩ := ee_upd_eq h
        rw [ee_nth_eq] at hw
        refine ⟨h1, h2, fun j' w' hj hw' => ?_⟩
        have : j' = j := by omega
        subst this
        rw [hw] at hw'
        cases hw'
        exact hl
    · cases h
theorem ab_lo_set {rv : List Int} {sv : List (Nat × Nat)} {xa : List Nat} {ls : Array Slot} {n : Nat} {lo lo' : List ab_A} (h : ab_lo rv sv xa ls n lo) {i : Nat} {a : ab_A} (hu : ab_sl lo i a = some lo') {v : Value} (hv : ab_ok rv sv xa v a) :
    i < n ∧ ∃ lv : List (Nat × Value), lv_has ls n lv ∧ ∀ ls', lv_has ls' n ((i, v) :: lv.filter (fun q => !(q.1 == i) && !(q.1 + 1 == i && q.2.category == 2))) → ab_lo rv sv xa ls' n lo' := by
  obtain ⟨h1, lv, h2, h3⟩ := h
  obtain ⟨g1, rfl, g2⟩ := ab_sl_spec hu
  refine ⟨by omega, lv, h2, fun ls' h' => ⟨by rw [List.length_set]; exact h1, _, h', fun j b hb => ?_⟩⟩
  by_cases hj : j = i
  · subst hj
    rw [List.getElem?_set_self g1] at hb
    cases hb
    exact Or.inr ⟨v, List.mem_cons_self, hv⟩
  · rw [List.getElem?_set_ne (fun z => hj z.symm)] at hb
    rcases h3 j b hb with h | ⟨w, h4, h5⟩
    · exact Or.inl h
    · refine Or.inr ⟨w, List.mem_cons_of_mem _ (List.mem_filter.mpr ⟨h4, ?_⟩), h5⟩
      by_cases hj1 : j + 1 = i
      · have hc : w.category = 1 := ab_ok_notl (g2 j b hj1 hb) h5
        simp [hj, hc]
      · simp [hj, hj1]
