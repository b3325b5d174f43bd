/-! ===== a stretch that doesn't look at local 1 ===== -/
def ee_l1 (v : ee_V) : List ee_V → List ee_V
  | a :: _ :: t => a :: v :: t
  | l => l
def ee_sl1 (v : ee_V) (S : ee_S) : ee_S := (S.1, ee_l1 v S.2.1, S.2.2)
theorem ee_l1_nth {v : ee_V} : ∀ {a : Nat} (lo : List ee_V), a ≠ 1 → ee_nth (ee_l1 v lo) a = ee_nth lo a
  | _, [], _ => rfl
  | _, [_], _ => rfl
  | 0, _ :: _ :: _, _ => rfl
  | 1, _ :: _ :: _, h => absurd rfl h
  | _ + 2, _ :: _ :: _, _ => rfl
theorem ee_l1_upd {v x : ee_V} : ∀ {a : Nat} {lo lo' : List ee_V}, a ≠ 1 → ee_upd lo a x = some lo' → ee_upd (ee_l1 v lo) a x = some (ee_l1 v lo')
  | _, [], _, _, h => by cases h
  | 0, [_], _, _, h => by cases h; rfl
  | _ + 1, [_], _, _, h => by cases h
  | 0, _ :: _ :: _, _, _, h => by cases h; rfl
  | 1, _ :: _ :: _, _, h, _ => absurd rfl h
  | n + 2, b :: c :: t, lo', _, h => by
    simp only [ee_upd, ee_l1] at h ⊢
    cases hu : ee_upd t n x with
    | none => rw [hu] at h; cases h
    | some l' => rw [hu] at h; cases h; rfl
section EFR
variable {v : ee_V} {a b n pc : Nat} {lo lo2 st : List ee_V} {h : ee_H} {r : List ee_V × ee_H × Nat × Nat} {w : Nat × Nat} {S S' : ee_S} {call : Nat → List ee_V → ee_H → Option ee_R} {xt : ee_X} {d y : Nat}
theorem ee_fx {o : ee_S → Option ee_S} (hm : ∀ (pc : Nat) (lo lo2 : List ee_V) (r : List ee_V × ee_H × Nat × Nat), o (pc, lo2, r) = (o (pc, lo, r)).map (fun S => (S.1, lo2, S.2.2))) (h : o S = some S') : o (ee_sl1 v S) = some (ee_sl1 v S') := by
  obtain ⟨pc, lo, r⟩ := S
  have h1 := hm pc lo lo r
  have h2 := hm pc lo (ee_l1 v lo) r
  rw [h] at h1 h2
  have h1 : some S' = some (S'.1, lo, S'.2.2) := h1
  have e1 : S'.2.1 = lo := by
    have := Option.some.inj h1
    rw [this]
  show o (pc, ee_l1 v lo, r) = some (S'.1, ee_l1 v S'.2.1, S'.2.2)
  rw [h2, e1]
  rfl
theorem ee_fr1 (ha : a ≠ 1) (h : ee_o1 a n S = some S') : ee_o1 a n (ee_sl1 v S) = some (ee_sl1 v S') := by
  obtain ⟨pc, lo, r⟩ := S
  have h : (match ee_nth lo a with | some (.inl q) => some (Nat.add pc n, lo, .inl q :: r.1, r.2) | _ => none) = some S' := h
  show (match ee_nth (ee_l1 v lo) a with | some (.inl q) => some (Nat.add pc n, ee_l1 v lo, .inl q :: r.1, r.2) | _ => none) = some (ee_sl1 v S')
  rw [ee_l1_nth lo ha]
  cases hg : ee_nth lo a with
  | none => rw [hg] at h; cases h
  | some x =>
    rw [hg] at h
    cases x with
    | inl q => cases h; rfl
    | inr q => cases h
theorem ee_fr2 (ha : a ≠ 1) (h : ee_o2 a n S = some S') : ee_o2 a n (ee_sl1 v S) = some (ee_sl1 v S') := by
  obtain ⟨pc, lo, r⟩ := S
  have h : (match ee_nth lo a with | some x => (bif ee_isr x then some (Nat.add pc n, lo, x :: r.1, r.2) else none) | none => none) = some S' := h
  show (match ee_nth (ee_l1 v lo) a with | some x => (bif ee_isr x then some (Nat.add pc n, ee_l1 v lo, x :: r.1, r.2) else none) | none => none) = some (ee_sl1 v S')
  rw [ee_l1_nth lo ha]
  cases hg : ee_nth lo a with
  | none => rw [hg] at h; cases h
  | some x =>
    rw [hg] at h
    have h : (bif ee_isr x then some (Nat.add pc n, lo, x :: r.1, r.2) else none) = some S' := h
    show (bif ee_isr x then some (Nat.add pc n, ee_l1 v lo, x :: r.1, r.2) else none) = some (ee_sl1 v S')
    cases hb : ee_isr x with
    | false => rw [hb] at h; cases h
    | true => rw [hb] at h; cases h; rfl
theorem ee_fr3 (ha : a ≠ 1) (h : ee_o3 a n S = some S') : ee_o3 a n (ee_sl1 v S) = some (ee_sl1 v S') := by
  obtain ⟨pc, lo, st, r⟩ := S
  match st, h with
  | .inl q :: st, h =>
    have h : (match ee_upd lo a (.inl q) with | some lo' => some (Nat.add pc n, lo', st, r) | none => none) = some S' := h
    show (match ee_upd (ee_l1 v lo) a (.inl q) with | some lo' => some (Nat.add pc n, lo', st, r) | none => none) = some (ee_sl1 v S')
    cases hu : ee_upd lo a (.inl q) with
    | none => rw [hu] at h; cases h
    | some l' =>
      rw [hu] at h
      cases h
      rw [ee_l1_upd ha hu]
      rfl
theorem ee_iv_k (l u : Nat) : ∃ w : ee_V, ∀ {β : Type} (k : ee_V → β), ee_iv l u k = k w := by
  cases hb : Nat.beq (Nat.div l (nat_lit 4294967296)) (Nat.div u (nat_lit 4294967296)) with
  | true => exact ⟨.inl (Nat.mod l (nat_lit 4294967296), Nat.mod u (nat_lit 4294967296)), fun k => by unfold ee_iv; rw [ee_ct hb, ee_f_eq, ee_f_eq]⟩
  | false => exact ⟨.inl (nat_lit 0, nat_lit 4294967295), fun k => by unfold ee_iv; rw [ee_cf hb]⟩
theorem ee_add_k (p q : Nat × Nat) : ∃ w : ee_V, ∀ {β : Type} (k : ee_V → β), ee_add p q k = k w := by
  obtain ⟨w, hw⟩ := ee_iv_k (Nat.add (Nat.add p.1 q.1) (nat_lit 2147483648)) (Nat.add (Nat.add p.2 q.2) (nat_lit 2147483648))
  exact ⟨w, fun k => by unfold ee_add; rw [ee_f_eq, ee_f_eq]; exact hw k⟩
theorem ee_ex_k (f : Int32 → Int32 → Int32) (p q : Nat × Nat) : ∃ w : ee_V, ∀ {β : Type} (k : ee_V → β), ee_ex f p q k = k w := by
  cases hb : (Nat.beq p.1 p.2 && Nat.beq q.1 q.2) with
  | true => exact ⟨.inl (ee_z (f (ee_x p.1) (ee_x q.1)), ee_z (f (ee_x p.1) (ee_x q.1))), fun k => by unfold ee_ex; rw [ee_ct hb, ee_f_eq]⟩
  | false => exact ⟨.inl (nat_lit 0, nat_lit 4294967295), fun k => by unfold ee_ex; rw [ee_cf hb]⟩
theorem ee_fr9 (ha : a ≠ 1) (h : ee_o9 a b n S = some S') : ee_o9 a b n (ee_sl1 v S) = some (ee_sl1 v S') := by
  obtain ⟨pc, lo, r⟩ := S
  have h : (match ee_nth lo a with | some (.inl q) => (ee_add q (b, b) fun x => match ee_upd lo a x with | some lo' => some (Nat.add pc n, lo', r.1, r.2) | none => none) | _ => none) = some S' := h
  show (match ee_nth (ee_l1 v lo) a with | some (.inl q) => (ee_add q (b, b) fun x => match ee_upd (ee_l1 v lo) a x with | some lo' => some (Nat.add pc n, lo', r.1, r.2) | none => none) | _ => none) = some (ee_sl1 v S')
  rw [ee_l1_nth lo ha]
  cases hg : ee_nth lo a with
  | none => rw [hg] at h; cases h
  | some x =>
    rw [hg] at h
    cases x with
    | inr _ => cases h
    | inl q =>
      obtain ⟨x, hx⟩ := ee_add_k q (b, b)
      have h : (ee_add q (b, b) fun x => match ee_upd lo a x with | some lo' => some (Nat.add pc n, lo', r.1, r.2) | none => none) = some S' := h
      rw [hx] at h
      show (ee_add q (b, b) fun x => match ee_upd (ee_l1 v lo) a x with | some lo' => some (Nat.add pc n, lo', r.1, r.2) | none => none) = some (ee_sl1 v S')
      rw [hx]
      cases hu : ee_upd lo a x with
      | none => rw [hu] at h; cases h
      | some lo' =>
        rw [hu] at h
        cases h
        rw [ee_l1_upd ha hu]
        rfl
theorem ee_mp5 {x : ee_V} (pc : Nat) (lo lo2 : List ee_V) (r : List ee_V × ee_H × Nat × Nat) : ee_push x n (pc, lo2, r) = (ee_push x n (pc, lo, r)).map (fun S => (S.1, lo2, S.2.2)) := rfl
theorem ee_mp10 (hop : a = 10 ∨ a = 12) (pc : Nat) (lo lo2 : List ee_V) (r : List ee_V × ee_H × Nat × Nat) : ee_o10 a n (pc, lo2, r) = (ee_o10 a n (pc, lo, r)).map (fun S => (S.1, lo2, S.2.2)) := by
  obtain ⟨st, r⟩ := r
  match st with
  | [] => rfl
  | .inr _ :: _ => rfl
  | [.inl _] => rfl
  | .inl _ :: .inr _ :: _ => rfl
  | .inl z :: .inl x :: st =>
    show (ee_bin a x z fun v => some (Nat.add pc n, lo2, v :: st, r)) = Option.map (fun S => (S.1, lo2, S.2.2)) (ee_bin a x z fun v => some (Nat.add pc n, lo, v :: st, r))
    rcases hop with e | e
    · subst e
      obtain ⟨w, hw⟩ := ee_add_k x z
      unfold ee_bin
      rw [ee_ct (show Nat.ble 10 (nat_lit 12) = true from rfl), ee_ct (show Nat.beq 10 (nat_lit 10) = true from rfl), ee_ct (show Nat.ble 10 (nat_lit 12) = true from rfl), ee_ct (show Nat.beq 10 (nat_lit 10) = true from rfl), hw, hw]
      rfl
    · subst e
      obtain ⟨w, hw⟩ := ee_ex_k (· * ·) x z
      unfold ee_bin
      rw [ee_ct (show Nat.ble 12 (nat_lit 12) = true from rfl), ee_cf (show Nat.beq 12 (nat_lit 10) = false from rfl), ee_cf (show Nat.beq 12 (nat_lit 11) = false from rfl), ee_ct (show Nat.beq 12 (nat_lit 12) = true from rfl), ee_ct (show Nat.ble 12 (nat_lit 12) = true from rfl), ee_cf (show Nat.beq 12 (nat_lit 10) = false from rfl), ee_cf (show Nat.beq 12 (nat_lit 11) = false from rfl), ee_ct (show Nat.beq 12 (nat_lit 12) = true from rfl), hw, hw]
      rfl
theorem ee_mp25 (pc : Nat) (lo lo2 : List ee_V) (r : List ee_V × ee_H × Nat × Nat) : ee_o25 b n (pc, lo2, r) = (ee_o25 b n (pc, lo, r)).map (fun S => (S.1, lo2, S.2.2)) := by
  obtain ⟨st, h, r⟩ := r
  match st with
  | [] => rfl
  | .inl _ :: _ => rfl
  | .inr (.inr _) :: _ => rfl
  | .inr (.inl 0) :: _ => rfl
  | .inr (.inl (k + 1)) :: st =>
    dsimp only [ee_o25]
    cases ee_get h k with
    | none => rfl
    | some nd =>
      cases nd with
      | inr _ => rfl
      | inl nd =>
        dsimp only
        cases Nat.beq nd.1 (Nat.div b (nat_lit 64)) with
        | false => rfl
        | true =>
          dsimp only [cond]
          cases ee_nth nd.2 (Nat.mod b (nat_lit 64)) with
          | none => rfl
          | some x =>
            dsimp only
            cases ee_isv x <;> rfl
theorem ee_mp28a {w : Nat} {g : Bool} {j : Nat} {D0 : ee_V} {O0 : List (Nat × ee_V)} {z : ee_H × Nat × Nat} (pc : Nat) (lo lo2 st : List ee_V) :
    (bif g then (match ee_at D0 O0 j with
        | .inl u => bif w.beq (nat_lit 3) then none else some (Nat.add pc n, lo2, .inl u :: st, z)
        | .inr u => bif w.beq (nat_lit 3) && ee_isr (.inr u) then some (Nat.add pc n, lo2, .inr u :: st, z) else none) else none) =
    (bif g then (match ee_at D0 O0 j with
        | .inl u => bif w.beq (nat_lit 3) then none else some (Nat.add pc n, lo, .inl u :: st, z)
        | .inr u => bif w.beq (nat_lit 3) && ee_isr (.inr u) then some (Nat.add pc n, lo, .inr u :: st, z) else none) else (none : Option ee_S)).map (fun S => (S.1, lo2, S.2.2)) := by
  cases g with
  | false => rfl
  | true =>
    dsimp only [cond]
    cases ee_at D0 O0 j with
    | inl u => dsimp only; cases w.beq (nat_lit 3) <;> rfl
    | inr u => dsimp only; cases (w.beq (nat_lit 3) && ee_isr (.inr u)) <;> rfl
theorem ee_mp28 {w : Nat} (pc : Nat) (lo lo2 : List ee_V) (r : List ee_V × ee_H × Nat × Nat) : ee_o28 xt w n (pc, lo2, r) = (ee_o28 xt w n (pc, lo, r)).map (fun S => (S.1, lo2, S.2.2)) := by
  obtain ⟨st, h, r⟩ := r
  match st with
  | [] => rfl
  | .inr _ :: _ => rfl
  | [.inl _] => rfl
  | .inl _ :: .inl _ :: _ => rfl
  | .inl _ :: .inr (.inl 0) :: _ => rfl
  | .inl _ :: .inr (.inr 0) :: _ => rfl
  | .inl q :: .inr (.inl (k + 1)) :: st =>
    rw [ee_o28, ee_o28]
    simp only [ee_f_eq]
    cases ee_get h k with
    | none => rfl
    | some nd =>
      cases nd with
      | inl _ => rfl
      | inr nd => exact ee_mp28a pc lo lo2 st
  | .inl q :: .inr (.inr (k + 1)) :: st =>
    rw [ee_o28, ee_o28]
    cases ee_nth xt k with
    | none => rfl
    | some L =>
      cases L with
      | none => rfl
      | some L =>
        dsimp only
        generalize ee_nth L (Nat.sub q.1 (nat_lit 2147483648)) = u
        generalize (Nat.beq w (nat_lit 0) && ee_ix q (ee_len L)) = g
        cases g with
        | false => rfl
        | true => cases u <;> rfl
theorem ee_mp40 (pc : Nat) (lo lo2 : List ee_V) (r : List ee_V × ee_H × Nat × Nat) : ee_o39 call true true y n (pc, lo2, r) = (ee_o39 call true true y n (pc, lo, r)).map (fun S => (S.1, lo2, S.2.2)) := by
  obtain ⟨st, h, c, s⟩ := r
  unfold ee_o39
  dsimp only
  cases ee_take (bif true then Nat.succ (ee_np y) else ee_np y) st [] with
  | none => rfl
  | some q =>
    obtain ⟨As, st'⟩ := q
    dsimp only
    generalize (Nat.ble (ee_len st') (nat_lit 8) && (bif true then (match As with
          | .inr (.inl (k + 1)) :: _ => (bif true then (match ee_get h k with
              | some (.inl nd) => Nat.beq nd.1 (ee_yc y)
              | _ => false) else true)
          | _ => false) else true)) = g
    cases g with
    | false => rfl
    | true =>
      dsimp only [cond]
      cases call y As h with
      | none => rfl
      | some q =>
        obtain ⟨rv, h', c', s'⟩ := q
        cases rv with
        | none =>
          dsimp only
          rw [ee_f_eq, ee_f_eq, ee_f_eq, ee_f_eq]
          rfl
        | some x =>
          dsimp only
          cases ee_isv x with
          | false => rfl
          | true =>
            dsimp only [cond]
            rw [ee_f_eq, ee_f_eq, ee_f_eq, ee_f_eq]
            rfl
theorem ee_mp44 (pc : Nat) (lo lo2 : List ee_V) (r : List ee_V × ee_H × Nat × Nat) : ee_o44 a b n (pc, lo2, r) = (ee_o44 a b n (pc, lo, r)).map (fun S => (S.1, lo2, S.2.2)) := by
  obtain ⟨st, r⟩ := r
  match st with
  | [] => rfl
  | .inr _ :: _ => rfl
  | [.inl _] => rfl
  | .inl _ :: .inr _ :: _ => rfl
  | .inl z :: .inl x :: st =>
    dsimp only [ee_o44]
    cases ee_cmp a x z with
    | none => rfl
    | some g => cases g <;> rfl
theorem ee_mp45 (pc : Nat) (lo lo2 : List ee_V) (r : List ee_V × ee_H × Nat × Nat) : ee_o45 a b n (pc, lo2, r) = (ee_o45 a b n (pc, lo, r)).map (fun S => (S.1, lo2, S.2.2)) := by
  obtain ⟨st, r⟩ := r
  match st with
  | [] => rfl
  | .inr _ :: _ => rfl
  | .inl x :: st =>
    dsimp only [ee_o45]
    cases ee_cmp a x (nat_lit 2147483648, nat_lit 2147483648) with
    | none => rfl
    | some g => cases g <;> rfl
theorem ee_mp48 (pc : Nat) (lo lo2 : List ee_V) (r : List ee_V × ee_H × Nat × Nat) : ee_o48 b (pc, lo2, r) = (ee_o48 b (pc, lo, r)).map (fun S => (S.1, lo2, S.2.2)) := rfl
def ee_fok (i : ee_I) : Bool := (List.elem i.1 [1, 2, 3, 9] && !Nat.beq i.2.1 1) || List.elem i.1 [5, 10, 12, 25, 28, 40, 44, 45, 48]
theorem ee_frame {i : ee_I} (hi : ee_fok i = true) (h : ee_step call xt d i S = some S') : ee_step call xt d i (ee_sl1 v S) = some (ee_sl1 v S') := by
  obtain ⟨op, a, b, n⟩ := i
  have hi : ((List.elem op [1, 2, 3, 9] && !Nat.beq a 1) || List.elem op [5, 10, 12, 25, 28, 40, 44, 45, 48]) = true := hi
  rw [Bool.or_eq_true, Bool.and_eq_true, List.elem_iff, List.elem_iff] at hi
  rcases hi with ⟨h1, h2⟩ | h1
  · have ha : a ≠ 1 := by
      intro e
      subst e
      cases h2
    simp only [List.mem_cons, List.not_mem_nil, or_false] at h1
    rcases h1 with e | e | e | e <;> subst e
    · rw [ee_st1] at h ⊢; exact ee_fr1 ha h
    · rw [ee_st2] at h ⊢; exact ee_fr2 ha h
    · rw [ee_st3] at h ⊢; exact ee_fr3 ha h
    · rw [ee_st9] at h ⊢; exact ee_fr9 ha h
  · simp only [List.mem_cons, List.not_mem_nil, or_false] at h1
    rcases h1 with e | e | e | e | e | e | e | e | e <;> subst e
    · rw [ee_st5] at h ⊢; exact ee_fx ee_mp5 h
    · rw [ee_st10] at h ⊢; exact ee_fx (ee_mp10 (Or.inl rfl)) h
    · rw [ee_st12] at h ⊢; exact ee_fx (ee_mp10 (Or.inr rfl)) h
    · rw [ee_st25] at h ⊢; exact ee_fx ee_mp25 h
    · rw [ee_st28] at h ⊢; exact ee_fx ee_mp28 h
    · rw [ee_st40] at h ⊢; exact ee_fx ee_mp40 h
    · rw [ee_st44] at h ⊢; exact ee_fx ee_mp44 h
    · rw [ee_st45] at h ⊢; exact ee_fx ee_mp45 h
    · rw [ee_st48] at h ⊢; exact ee_fx ee_mp48 h
end EFR
/-- a stretch that doesn't look at local 1, to a given place -/
def ee_gf (call : Nat → List ee_V → ee_H → Option ee_R) (xt : List (Option (List (Nat × Nat)))) (d y stop : Nat) : Nat → ee_S → Option ee_S
  | 0, _ => none
  | f + 1, (pc, r) => ee_f pc fun pc => bif Nat.blt pc (nat_lit 1100) then (match ee_pg y pc with
    | none => none
    | some i => bif ee_fok i then (match ee_step call xt d i (pc, r) with
      | none => none
      | some S => bif Nat.beq S.1 stop then some S else ee_gf call xt d y stop f S) else none) else none
theorem ee_gf_go {call : Nat → List ee_V → ee_H → Option ee_R} {xt : ee_X} {d y stop : Nat} {v : ee_V} {S' : ee_S} : ∀ (f : Nat) (S : ee_S), ee_gf call xt d y stop f S = some S' → ee_go call xt d y stop f (ee_sl1 v S) = some (ee_sl1 v S') := by
  intro f
  induction f with
  | zero => intro S h; cases h
  | succ f ih =>
    intro S h
    obtain ⟨pc, r⟩ := S
    unfold ee_gf at h
    rw [ee_f_eq] at h
    show ee_f pc _ = _
    rw [ee_f_eq]
    cases hpc : Nat.blt pc (nat_lit 1100) with
    | false => rw [ee_cf hpc] at h; cases h
    | true =>
      rw [ee_ct hpc] at h
      rw [ee_ct rfl]
      split at h
      · cases h
      · rename_i i hi
        rw [hi]
        cases hok : ee_fok i with
        | false => rw [ee_cf hok] at h; cases h
        | true =>
          rw [ee_ct hok] at h
          split at h
          · cases h
          · rename_i S1 hS1
            have hf := ee_frame (v := v) hok hS1
            show (match ee_step call xt d i (ee_sl1 v (pc, r)) with | none => none | some S => bif Nat.beq S.1 stop then some S else ee_go call xt d y stop f S) = _
            rw [hf]
            show (bif Nat.beq S1.1 stop then some (ee_sl1 v S1) else ee_go call xt d y stop f (ee_sl1 v S1)) = _
            cases hst : Nat.beq S1.1 stop with
            | true => rw [ee_ct hst] at h; cases h; rfl
            | false => rw [ee_cf hst] at h; exact ih S1 h
