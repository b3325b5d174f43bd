/-! ===== lists and described heaps ===== -/
theorem ee_bn {a b : Nat} (h : a ≠ b) : Nat.beq a b = false := by
  cases hb : Nat.beq a b with
  | false => rfl
  | true => exact absurd (Nat.eq_of_beq_eq_true hb) h
theorem ee_nth_eq {α : Type} (l : List α) : ∀ n : Nat, ee_nth l n = l[n]? := by
  induction l with
  | nil => intro n; simp [ee_nth]
  | cons a l ih =>
    intro n
    cases n with
    | zero => simp [ee_nth]
    | succ n => simp [ee_nth, ih]
theorem ee_upd_eq {α : Type} {l : List α} : ∀ {n : Nat} {x : α} {l' : List α}, ee_upd l n x = some l' → n < l.length ∧ l' = l.set n x := by
  induction l with
  | nil => intro n x l' h; simp [ee_upd] at h
  | cons a l ih =>
    intro n x l' h
    cases n with
    | zero =>
      simp only [ee_upd, Option.some.injEq] at h
      subst h
      simp
    | succ n =>
      simp only [ee_upd] at h
      split at h
      · cases h
      · rename_i l2 h2
        cases h
        obtain ⟨h3, rfl⟩ := ih h2
        simp only [List.length_cons, List.set_cons_succ, and_true]
        omega
theorem ee_len_eq {α : Type} (l : List α) : ee_len l = l.length := by
  induction l with
  | nil => rfl
  | cons a l ih => show Nat.succ (ee_len l) = _; rw [ih]; rfl
theorem ee_snoc_eq {α : Type} (l : List α) (x : α) : ee_snoc l x = l ++ [x] := by
  induction l with
  | nil => rfl
  | cons a l ih => show a :: ee_snoc l x = _; rw [ih]; rfl
theorem ee_get_eq (h : ee_H) (k : Nat) : ee_get h k = (h.2[k / 16]?).bind (fun c => c[k % 16]?) := by
  unfold ee_get
  rw [ee_nth_eq]
  show (match h.2[k / 16]? with | none => none | some c => ee_nth c (k % 16)) = _
  cases h.2[k / 16]? with
  | none => rfl
  | some c => exact ee_nth_eq c _
theorem ee_put_get {h h' : ee_H} {k : Nat} {nd : ee_N} (hp : ee_put h k nd = some h') : h'.1 = h.1 ∧ ee_get h' k = some nd ∧ ∀ j, j ≠ k → ee_get h' j = ee_get h j := by
  unfold ee_put at hp
  rw [ee_nth_eq] at hp
  change (match h.2[k / 16]? with
    | none => none
    | some c => match ee_upd c (k % 16) nd with
      | none => none
      | some c' => match ee_upd h.2 (k / 16) c' with
        | none => none
        | some cs => some (h.1, cs)) = some h' at hp
  cases h1 : h.2[k / 16]? with
  | none => rw [h1] at hp; cases hp
  | some c =>
    rw [h1] at hp
    dsimp only at hp
    split at hp
    · cases hp
    · rename_i c' h2
      split at hp
      · cases hp
      · rename_i cs h3
        cases hp
        obtain ⟨g1, rfl⟩ := ee_upd_eq h2
        obtain ⟨g2, rfl⟩ := ee_upd_eq h3
        refine ⟨rfl, ?_, fun j hj => ?_⟩
        · rw [ee_get_eq]
          simp [g1, g2]
        · rw [ee_get_eq, ee_get_eq]
          dsimp only
          by_cases hq : k / 16 = j / 16
          · rw [← hq, List.getElem?_set_self g2, h1]
            show (c.set (k % 16) nd)[j % 16]? = c[j % 16]?
            rw [List.getElem?_set_ne]
            intro e
            exact hj (by omega)
          · rw [List.getElem?_set_ne hq]
theorem ee_new_get {h h' : ee_H} {nd : ee_N} (hp : ee_new h nd = some h') : h'.1 = h.1 + 1 ∧ ee_get h' h.1 = some nd ∧ ∀ j, j ≠ h.1 → ee_get h' j = ee_get h j := by
  unfold ee_new at hp
  rw [ee_nth_eq] at hp
  simp only [ee_f_eq, ee_len_eq, ee_snoc_eq] at hp
  cases h1 : Nat.beq (Nat.mod h.1 (nat_lit 16)) (nat_lit 0) with
  | true =>
    rw [ee_ct h1] at hp
    have e1 : h.1 % 16 = 0 := Nat.eq_of_beq_eq_true h1
    cases h2 : Nat.beq h.2.length (Nat.div h.1 (nat_lit 16)) with
    | false => rw [ee_cf h2] at hp; cases hp
    | true =>
      rw [ee_ct h2] at hp
      have e2 : h.2.length = h.1 / 16 := Nat.eq_of_beq_eq_true h2
      cases hp
      refine ⟨rfl, ?_, fun j hj => ?_⟩
      · rw [ee_get_eq]
        dsimp only
        rw [← e2, List.getElem?_concat_length, e1]
        rfl
      · rw [ee_get_eq, ee_get_eq]
        dsimp only
        by_cases hlt : j / 16 < h.2.length
        · rw [List.getElem?_append_left hlt]
        · rw [List.getElem?_append_right (by omega)]
          have e3 : h.2[j / 16]? = none := by simp; omega
          rw [e3]
          by_cases hq : j / 16 = h.2.length
          · rw [hq, Nat.sub_self]
            show ([nd] : List ee_N)[j % 16]? = none
            have : j % 16 ≠ 0 := fun z => hj (by omega)
            simp; omega
          · have : j / 16 - h.2.length ≥ 1 := by omega
            have e4 : ([[nd]] : List (List ee_N))[j / 16 - h.2.length]? = none := by simp; omega
            rw [e4]
  | false =>
    rw [ee_cf h1] at hp
    change (match h.2[h.1 / 16]? with
      | none => none
      | some c => cond (Nat.beq c.length (h.1 % 16)) (match ee_upd h.2 (h.1 / 16) (c ++ [nd]) with
          | none => none
          | some cs => some (Nat.succ h.1, cs)) none) = some h' at hp
    cases hc : h.2[h.1 / 16]? with
    | none => rw [hc] at hp; cases hp
    | some c =>
      rw [hc] at hp
      dsimp only at hp
      cases h2 : Nat.beq c.length (h.1 % 16) with
      | false => rw [ee_cf h2] at hp; cases hp
      | true =>
        rw [ee_ct h2] at hp
        have e2 : c.length = h.1 % 16 := Nat.eq_of_beq_eq_true h2
        split at hp
        · cases hp
        · rename_i cs h3
          cases hp
          obtain ⟨g2, rfl⟩ := ee_upd_eq h3
          refine ⟨rfl, ?_, fun j hj => ?_⟩
          · rw [ee_get_eq]
            dsimp only
            rw [List.getElem?_set_self g2]
            show (c ++ [nd])[h.1 % 16]? = _
            rw [← e2, List.getElem?_concat_length]
          · rw [ee_get_eq, ee_get_eq]
            dsimp only
            by_cases hq : h.1 / 16 = j / 16
            · rw [← hq, List.getElem?_set_self g2, hc]
              show (c ++ [nd])[j % 16]? = c[j % 16]?
              by_cases hlt : j % 16 < c.length
              · rw [List.getElem?_append_left hlt]
              · have : j % 16 ≠ c.length := fun z => hj (by omega)
                rw [List.getElem?_append_right (by omega)]
                have e3 : c[j % 16]? = none := by simp; omega
                rw [e3]
                simp; omega
            · rw [List.getElem?_set_ne hq]
/-! arrays -/
theorem ee_ins_at {d : ee_V} {ov : List (Nat × ee_V)} : ∀ {ov' : List (Nat × ee_V)} {j : Nat} {v : ee_V}, ee_ins ov j v = some ov' → ∀ i, ee_at d ov' i = if i = j then v else ee_at d ov i := by
  induction ov with
  | nil =>
    intro ov' j v h i
    cases h
    show (bif Nat.beq j i then v else ee_at d [] i) = _
    by_cases hij : i = j
    · subst hij
      rw [ee_ct (Nat.beq_refl _), if_pos rfl]
    · rw [ee_cf (ee_bn (fun z => hij z.symm)), if_neg hij]
  | cons q l ih =>
    intro ov' j v h i
    unfold ee_ins at h
    cases hb : Nat.beq q.1 j with
    | true =>
      rw [ee_ct hb] at h
      cases h
      have e : q.1 = j := Nat.eq_of_beq_eq_true hb
      show (bif Nat.beq j i then v else ee_at d l i) = if i = j then v else (bif Nat.beq q.1 i then q.2 else ee_at d l i)
      by_cases hij : i = j
      · subst hij
        rw [ee_ct (Nat.beq_refl _), if_pos rfl]
      · have h9 : Nat.beq j i = false := ee_bn (fun z => hij z.symm)
        rw [e, ee_cf h9, if_neg hij, ee_cf h9]
    | false =>
      rw [ee_cf hb] at h
      split at h
      · cases h
      · rename_i l' h2
        cases h
        show (bif Nat.beq q.1 i then q.2 else ee_at d l' i) = if i = j then v else (bif Nat.beq q.1 i then q.2 else ee_at d l i)
        rw [ih h2 i]
        by_cases hij : i = j
        · subst hij
          rw [if_pos rfl, ee_cf hb, if_pos rfl]
        · rw [if_neg hij, if_neg hij]
theorem ee_del_at {d : ee_V} {ov : List (Nat × ee_V)} : ∀ {ov' : List (Nat × ee_V)} {j : Nat}, ee_del ov j = some ov' → ∀ i, ee_at d ov' i = if i = j then d else ee_at d ov i := by
  induction ov with
  | nil =>
    intro ov' j h i
    cases h
    show d = if i = j then d else d
    simp
  | cons q l ih =>
    intro ov' j h i
    unfold ee_del at h
    split at h
    · cases h
    · rename_i l' h2
      cases hb : Nat.beq q.1 j with
      | true =>
        rw [ee_ct hb] at h
        cases h
        have e : q.1 = j := Nat.eq_of_beq_eq_true hb
        rw [ih h2 i]
        show _ = if i = j then d else (bif Nat.beq q.1 i then q.2 else ee_at d l i)
        by_cases hij : i = j
        · rw [if_pos hij, if_pos hij]
        · have h9 : Nat.beq j i = false := ee_bn (fun z => hij z.symm)
          rw [if_neg hij, if_neg hij, e, ee_cf h9]
      | false =>
        rw [ee_cf hb] at h
        cases h
        show (bif Nat.beq q.1 i then q.2 else ee_at d l' i) = if i = j then d else (bif Nat.beq q.1 i then q.2 else ee_at d l i)
        rw [ih h2 i]
        by_cases hij : i = j
        · subst hij
          rw [if_pos rfl, ee_cf hb, if_pos rfl]
        · rw [if_neg hij, if_neg hij]
theorem ee_veq_eq {a b : ee_V} (h : ee_veq a b = true) : a = b := by
  match a, b, h with
  | .inl (a1, a2), .inl (b1, b2), h =>
    have h' : (Nat.beq a1 b1 && Nat.beq a2 b2) = true := h
    rw [Bool.and_eq_true] at h'
    rw [Nat.eq_of_beq_eq_true h'.1, Nat.eq_of_beq_eq_true h'.2]
  | .inr (.inl a), .inr (.inl b), h => rw [Nat.eq_of_beq_eq_true (show Nat.beq a b = true from h)]
  | .inr (.inr a), .inr (.inr b), h => rw [Nat.eq_of_beq_eq_true (show Nat.beq a b = true from h)]
theorem ee_ast_at {d : ee_V} {ov ov' : List (Nat × ee_V)} {j : Nat} {v : ee_V} (h : ee_ast d ov j v = some ov') (i : Nat) : ee_at d ov' i = if i = j then v else ee_at d ov i := by
  unfold ee_ast at h
  cases hv : ee_veq v d with
  | true =>
    rw [ee_ct hv] at h
    rw [ee_del_at h i, ee_veq_eq hv]
  | false =>
    rw [ee_cf hv] at h
    exact ee_ins_at h i
theorem ee_cpy_at {d0 d : ee_V} {o0 : List (Nat × ee_V)} : ∀ {n sp dp : Nat} {ov ov' : List (Nat × ee_V)}, ee_cpy d0 o0 d n sp dp ov = some ov' → ∀ i, ee_at d ov' i = if dp ≤ i ∧ i < dp + n then ee_at d0 o0 (sp + (i - dp)) else ee_at d ov i := by
  intro n
  induction n with
  | zero =>
    intro sp dp ov ov' h i
    cases h
    rw [if_neg (by omega)]
  | succ n ih =>
    intro sp dp ov ov' h i
    unfold ee_cpy at h
    split at h
    · cases h
    · rename_i ov2 h2
      simp only [ee_f_eq] at h
      rw [ih h i, ee_ast_at h2 i]
      by_cases h1 : i = dp
      · subst h1
        rw [if_neg (by omega), if_pos rfl, if_pos (by omega), Nat.sub_self]
        rfl
      · by_cases h3 : dp + 1 ≤ i ∧ i < dp + 1 + n
        · rw [if_pos h3, if_pos (by omega)]
          congr 1
          show Nat.succ sp + (i - Nat.succ dp) = _
          omega
        · rw [if_neg h3, if_neg h1, if_neg (by omega)]
/-! ===== what a description says of the machine's heap ===== -/
def ee_a2 {α β : Type} (P : α → β → Prop) : List α → List β → Prop
  | [], [] => True
  | a :: l, b :: m => P a b ∧ ee_a2 P l m
  | _, _ => False
theorem ee_a2_len {α β : Type} {P : α → β → Prop} : ∀ {l : List α} {m : List β}, ee_a2 P l m → l.length = m.length
  | [], [], _ => rfl
  | _ :: _, _ :: _, h => by simp [ee_a2_len h.2]
theorem ee_a2_mono {α β : Type} {P P' : α → β → Prop} (hp : ∀ a b, P a b → P' a b) : ∀ {l : List α} {m : List β}, ee_a2 P l m → ee_a2 P' l m
  | [], [], _ => trivial
  | _ :: _, _ :: _, h => ⟨hp _ _ h.1, ee_a2_mono hp h.2⟩
theorem ee_a2_get {α β : Type} {P : α → β → Prop} : ∀ {l : List α} {m : List β}, ee_a2 P l m → ∀ {i : Nat} {b : β}, m[i]? = some b → ∃ a, l[i]? = some a ∧ P a b
  | [], [], _, i, b, hb => by simp at hb
  | a :: _, _ :: _, h, 0, b, hb => by
    simp at hb
    subst hb
    exact ⟨a, by simp, h.1⟩
  | _ :: l, _ :: m, h, i + 1, b, hb => by
    simp at hb
    obtain ⟨a, h1, h2⟩ := ee_a2_get h.2 hb
    exact ⟨a, by simpa using h1, h2⟩
theorem ee_a2_set {α β : Type} {P : α → β → Prop} {a : α} {b : β} (hab : P a b) : ∀ {l : List α} {m : List β}, ee_a2 P l m → ∀ (i : Nat), ee_a2 P (l.set i a) (m.set i b)
  | [], [], _, i => by simp [ee_a2]
  | _ :: _, _ :: _, h, 0 => ⟨hab, h.2⟩
  | _ :: _, _ :: _, h, i + 1 => ⟨h.1, ee_a2_set hab h.2 i⟩
theorem ee_a2_app {α β : Type} {P : α → β → Prop} {l2 : List α} {m2 : List β} (h2 : ee_a2 P l2 m2) : ∀ {l : List α} {m : List β}, ee_a2 P l m → ee_a2 P (l ++ l2) (m ++ m2)
  | [], [], _ => h2
  | _ :: _, _ :: _, h => ⟨h.1, ee_a2_app h2 h.2⟩
theorem ee_a2_rev {α β : Type} {P : α → β → Prop} : ∀ {l : List α} {m : List β}, ee_a2 P l m → ee_a2 P l.reverse m.reverse
  | [], [], _ => trivial
  | _ :: _, _ :: _, h => by
    rw [List.reverse_cons, List.reverse_cons]
    exact ee_a2_app (show ee_a2 P [_] [_] from ⟨h.1, trivial⟩) (ee_a2_rev h.2)
def ee_ok (ad xa : List Nat) (v : Value) : ee_V → Prop
  | .inl r => ∃ x : Int32, v = .int x ∧ ee_in x r
  | .inr (.inl 0) => v = .null
  | .inr (.inl (k + 1)) => ∃ a, ad[k]? = some a ∧ v = .ref a
  | .inr (.inr 0) => v.category = 1
  | .inr (.inr (j + 1)) => ∃ a, xa[j]? = some a ∧ v = .ref a
theorem ee_ok_mono {ad ad' xa : List Nat} (hp : ad <+: ad') {v : Value} {a : ee_V} (h : ee_ok ad xa v a) : ee_ok ad' xa v a := by
  match a, h with
  | .inl r, h => exact h
  | .inr (.inl 0), h => exact h
  | .inr (.inl (k + 1)), ⟨a, h1, h2⟩ =>
    obtain ⟨t, rfl⟩ := hp
    exact ⟨a, by rw [List.getElem?_append_left (List.getElem?_eq_some_iff.mp h1).1]; exact h1, h2⟩
  | .inr (.inr 0), h => exact h
  | .inr (.inr (j + 1)), h => exact h
theorem ee_ok_cat {ad xa : List Nat} {v : Value} {a : ee_V} (hv : ee_isv a = true) (h : ee_ok ad xa v a) : v.category = 1 := by
  match a, hv, h with
  | .inl r, _, ⟨x, e, _⟩ => rw [e]; rfl
  | .inr (.inl 0), _, h => rw [show v = .null from h]; rfl
  | .inr (.inl (k + 1)), _, ⟨a, _, e⟩ => rw [e]; rfl
  | .inr (.inr (j + 1)), _, ⟨a, _, e⟩ => rw [e]; rfl
theorem ee_ok_cat1 {ad xa : List Nat} {v : Value} {a : ee_V} (h : ee_ok ad xa v a) : v.category = 1 := by
  match a, h with
  | .inl r, ⟨x, e, _⟩ => rw [e]; rfl
  | .inr (.inl 0), h => rw [show v = .null from h]; rfl
  | .inr (.inl (k + 1)), ⟨a, _, e⟩ => rw [e]; rfl
  | .inr (.inr 0), h => exact h
  | .inr (.inr (j + 1)), ⟨a, _, e⟩ => rw [e]; rfl
theorem ee_cats {ad xa : List Nat} : ∀ {vs : List Value} {st : List ee_V}, ee_a2 (ee_ok ad xa) vs st → (vs.map fun v => v.category).sum = st.length
  | [], [], _ => rfl
  | v :: vs, a :: st, h => by
    have h1 := ee_cats h.2
    have h2 : v.category = 1 := ee_ok_cat1 h.1
    simp only [List.map_cons, List.sum_cons, List.length_cons, h1, h2]
    omega
theorem ee_a2_split {α β : Type} {P : α → β → Prop} : ∀ {m1 m2 : List β} {l : List α}, ee_a2 P l (m1 ++ m2) → ∃ l1 l2, l = l1 ++ l2 ∧ ee_a2 P l1 m1 ∧ ee_a2 P l2 m2
  | [], m2, l, h => ⟨[], l, rfl, trivial, h⟩
  | b :: m1, m2, a :: l, h => by
    obtain ⟨l1, l2, rfl, h1, h2⟩ := ee_a2_split h.2
    exact ⟨a :: l1, l2, rfl, ⟨h.1, h1⟩, h2⟩
theorem ee_a2_of {α β : Type} {P : α → β → Prop} : ∀ {l : List α} {m : List β}, l.length = m.length → (∀ (i : Nat) (a : α) (b : β), l[i]? = some a → m[i]? = some b → P a b) → ee_a2 P l m
  | [], [], _, _ => trivial
  | a :: l, b :: m, h, hp => ⟨hp 0 a b rfl rfl, ee_a2_of (by simpa using h) (fun i a b h1 h2 => hp (i + 1) a b (by simpa using h1) (by simpa using h2))⟩
theorem ee_isr_v {a : ee_V} (h : ee_isr a = true) : ee_isv a = true := by
  match a, h with
  | .inr (.inl 0), _ => rfl
  | .inr (.inl (k + 1)), _ => rfl
  | .inr (.inr (j + 1)), _ => rfl
theorem ee_ok_ref {ad xa : List Nat} {v : Value} {a : ee_V} (hv : ee_isr a = true) (h : ee_ok ad xa v a) : v = .null ∨ ∃ x, v = .ref x := by
  match a, hv, h with
  | .inr (.inl 0), _, h => exact Or.inl h
  | .inr (.inl (k + 1)), _, ⟨a, _, e⟩ => exact Or.inr ⟨a, e⟩
  | .inr (.inr (j + 1)), _, ⟨a, _, e⟩ => exact Or.inr ⟨a, e⟩
/-- a cell of the world, as a node says it -/
def ee_nd (dA : Nat → ClassId) (ad xa : List Nat) (e : va_E) : ee_N → Prop
  | .inl (ci, fs) => ∃ vs : List Value, e = .inr (ci, vs) ∧ ee_a2 (ee_ok ad xa) vs fs
  | .inr (t, n, d, ov) => (t = 1 ∧ ∃ f : Nat → Int64, e = .inl (dA 1, n, .inr (.inl f))) ∨
      ((t = 0 ∨ t = 2) ∧ ∃ f : Nat → Int32, e = .inl (dA t, n, .inl f) ∧ ∀ j, j < n → ee_ok ad xa (.int (f j)) (ee_at d ov j)) ∨
      (3 ≤ t ∧ t ≤ 6 ∧ ∃ g : Nat → Option Nat, e = .inl (dA t, n, .inr (.inr (.inr (.inr g)))) ∧ ∀ j, j < n → ee_ok ad xa (va_rf (g j)) (ee_at d ov j))
theorem ee_nd_mono {dA : Nat → ClassId} {ad ad' xa : List Nat} (hp : ad <+: ad') {e : va_E} {nd : ee_N} (h : ee_nd dA ad xa e nd) : ee_nd dA ad' xa e nd := by
  match nd, h with
  | .inl (ci, fs), ⟨vs, h1, h2⟩ => exact ⟨vs, h1, ee_a2_mono (fun _ _ => ee_ok_mono hp) h2⟩
  | .inr (t, n, d, ov), Or.inl h => exact Or.inl h
  | .inr (t, n, d, ov), Or.inr (Or.inl ⟨h1, f, h2, h3⟩) => exact Or.inr (Or.inl ⟨h1, f, h2, fun j hj => ee_ok_mono hp (h3 j hj)⟩)
  | .inr (t, n, d, ov), Or.inr (Or.inr ⟨h1, h0, f, h2, h3⟩) => exact Or.inr (Or.inr ⟨h1, h0, f, h2, fun j hj => ee_ok_mono hp (h3 j hj)⟩)
/-- the world, as the nodes say it; ad: where the nodes are -/
def ee_wd (dA : Nat → ClassId) (ad xa : List Nat) (ws : va_W) (h : ee_H) : Prop := ws.map (·.1) = ad ∧ ws.length = h.1 ∧ ∀ k nd, ee_get h k = some nd → ∃ q, ws[k]? = some q ∧ ee_nd dA ad xa q.2 nd
theorem ee_wd_at {dA : Nat → ClassId} {ad xa : List Nat} {ws : va_W} {h : ee_H} (hw : ee_wd dA ad xa ws h) {k : Nat} {nd : ee_N} (hk : ee_get h k = some nd) {v : Value} (hv : ee_ok ad xa v (.inr (.inl (k + 1)))) : ∃ (a : Nat) (e : va_E), v = .ref a ∧ ws[k]? = some (a, e) ∧ ad[k]? = some a ∧ ee_nd dA ad xa e nd := by
  obtain ⟨q, h1, h2⟩ := hw.2.2 k nd hk
  obtain ⟨a, h3, h4⟩ := hv
  have h5 : ad[k]? = some q.1 := by rw [← hw.1]; simp [h1]
  rw [h5] at h3
  cases h3
  exact ⟨q.1, q.2, h4, h1, h5, h2⟩
theorem ee_wd_put {dA : Nat → ClassId} {ad xa : List Nat} {ws : va_W} {h h' : ee_H} (hw : ee_wd dA ad xa ws h) {k a : Nat} {nd : ee_N} {e e' : va_E} (hk : ws[k]? = some (a, e)) (hp : ee_put h k nd = some h') (hn : ee_nd dA ad xa e' nd) : ee_wd dA ad xa (ws.set k (a, e')) h' := by
  obtain ⟨g1, g2, g3⟩ := ee_put_get hp
  have hlt : k < ws.length := (List.getElem?_eq_some_iff.mp hk).1
  refine ⟨?_, ?_, fun j nd' hj => ?_⟩
  · rw [← hw.1]
    apply List.ext_getElem?
    intro i
    by_cases hik : i = k
    · subst hik
      rw [List.getElem?_map, List.getElem?_map, List.getElem?_set_self hlt, hk]
      rfl
    · simp [List.getElem?_set_ne (fun z => hik z.symm)]
  · rw [List.length_set, g1]; exact hw.2.1
  · by_cases hjk : j = k
    · subst hjk
      rw [g2] at hj
      cases hj
      exact ⟨(a, e'), by rw [List.getElem?_set_self hlt], hn⟩
    · rw [g3 j hjk] at hj
      obtain ⟨q, h1, h2⟩ := hw.2.2 j nd' hj
      exact ⟨q, by rw [List.getElem?_set_ne (fun z => hjk z.symm)]; exact h1, h2⟩
theorem ee_wd_new {dA : Nat → ClassId} {ad xa : List Nat} {ws : va_W} {h h' : ee_H} (hw : ee_wd dA ad xa ws h) {a : Nat} {nd : ee_N} {e : va_E} (hp : ee_new h nd = some h') (hn : ee_nd dA (ad ++ [a]) xa e nd) : ee_wd dA (ad ++ [a]) xa (ws ++ [(a, e)]) h' ∧ (ad ++ [a])[h.1]? = some a := by
  obtain ⟨g1, g2, g3⟩ := ee_new_get hp
  have hl : ad.length = h.1 := by rw [← hw.1, List.length_map]; exact hw.2.1
  refine ⟨⟨?_, ?_, fun j nd' hj => ?_⟩, ?_⟩
  · rw [List.map_append, hw.1]; rfl
  · rw [List.length_append, hw.2.1, g1]; rfl
  · by_cases hjk : j = h.1
    · subst hjk
      rw [g2] at hj
      cases hj
      exact ⟨(a, e), by rw [← hw.2.1, List.getElem?_concat_length], hn⟩
    · rw [g3 j hjk] at hj
      obtain ⟨q, h1, h2⟩ := hw.2.2 j nd' hj
      exact ⟨q, by rw [List.getElem?_append_left (List.getElem?_eq_some_iff.mp h1).1]; exact h1, ee_nd_mono (List.prefix_append _ _) h2⟩
  · rw [← hl, List.getElem?_concat_length]
/-- the locals -/
def ee_lo (ad xa : List Nat) (ls : Array Slot) (n : Nat) (lo : List ee_V) : Prop := lo.length = n ∧ ∃ lv : List (Nat × Value), lv_has ls n lv ∧ ∀ i a, lo[i]? = some a → a = .inr (.inr 0) ∨ ∃ v, (i, v) ∈ lv ∧ ee_ok ad xa v a
theorem ee_lo_mono {ad ad' xa : List Nat} (hp : ad <+: ad') {ls : Array Slot} {n : Nat} {lo : List ee_V} (h : ee_lo ad xa ls n lo) : ee_lo ad' xa ls n lo := by
  obtain ⟨h1, lv, h2, h3⟩ := h
  refine ⟨h1, lv, h2, fun i a ha => ?_⟩
  rcases h3 i a ha with h | ⟨v, h4, h5⟩
  · exact Or.inl h
  · exact Or.inr ⟨v, h4, ee_ok_mono hp h5⟩
theorem ee_lo_get {ad xa : List Nat} {ls : Array Slot} {n : Nat} {lo : List ee_V} (h : ee_lo ad xa ls n lo) {i : Nat} {a : ee_V} (ha : ee_nth lo i = some a) (hv : ee_isv a = true) : ∃ v, ls[i]? = some (.val v) ∧ ee_ok ad xa v a := by
  obtain ⟨h1, lv, h2, h3⟩ := h
  rw [ee_nth_eq] at ha
  rcases h3 i a ha with h | ⟨v, h4, h5⟩
  · rw [h] at hv; cases hv
  · exact ⟨v, h2.2.2 _ h4, h5⟩
/-- a store into the locals, as the kit's rows say it -/
theorem ee_lo_set {ad xa : List Nat} {ls : Array Slot} {n : Nat} {lo lo' : List ee_V} (h : ee_lo ad xa ls n lo) {i : Nat} {a : ee_V} (hu : ee_upd lo i a = some lo') {v : Value} (hv : ee_ok ad xa v a) :
    i < n ∧ ∃ lv : List (Nat × Value), lv_has ls n lv ∧ ∀ ls', lv_has ls' n ((i, v) :: lv.filter (fun q => !(q.1 == i) && !(q.1 + 1 == i && q.2.category == 2))) → ee_lo ad xa ls' n lo' := by
  obtain ⟨h1, lv, h2, h3⟩ := h
  obtain ⟨g1, rfl⟩ := ee_upd_eq hu
  refine ⟨by omega, lv, h2, fun ls' h' => ⟨by rw [List.length_set]; exact h1, _, h', fun j b hb => ?_⟩⟩
  by_cases hj : j = i
  · subst hj
    rw [List.getElem?_set_self g1] at hb
    cases hb
    exact Or.inr ⟨v, List.mem_cons_self, hv⟩
  · rw [List.getElem?_set_ne (fun z => hj z.symm)] at hb
    by_cases hbu : b = .inr (.inr 0)
    · exact Or.inl hbu
    · rcases h3 j b hb with h | ⟨w, h4, h5⟩
      · exact Or.inl h
      · refine Or.inr ⟨w, List.mem_cons_of_mem _ (List.mem_filter.mpr ⟨h4, ?_⟩), h5⟩
        have hc : w.category = 1 := ee_ok_cat (a := b) (by
          match b, hbu with
          | .inl _, _ => rfl
          | .inr (.inl _), _ => rfl
          | .inr (.inr 0), hbu => exact absurd rfl hbu
          | .inr (.inr (k + 1)), _ => rfl) h5
        simp [hj, hc]
