/-! ===== calls answered by what was proved before; a run in pieces ===== -/
def ee_gn (call : Nat → List ee_V → ee_H → Option ee_R) (xt : List (Option (List (Nat × Nat)))) (d y : Nat) : Nat → ee_S → Option ee_S
  | 0, S => some S
  | f + 1, (pc, r) => ee_f pc fun pc => bif Nat.blt pc (nat_lit 1100) then (match ee_pg y pc with
    | none => none
    | some i => match ee_step call xt d i (pc, r) with
      | none => none
      | some S => ee_gn call xt d y f S) else none
section EOR
variable {p : Program} {l : Launch} {e : Env} {R : Room} {s : State} {m : MethodId} {args : Array Value} {below : List Frame} {meth : Method} {c : Code} {D : va_G} {dA : Nat → ClassId} {xa : List Nat} {xt : ee_X} {B : Nat} {ad0 : List Nat} {y : Nat}
theorem ee_gn_snd {d : Nat} {call : Nat → List ee_V → ee_H → Option ee_R} {Q : State → Prop} {S' : ee_S} (hR : d ≤ R.frames ∧ 40 * d ≤ R.locals) (hcall : ee_CS l D dA xa xt B d call) (hC : ee_C p s m args meth c D dA xa xt B y) (hcap : S'.2.2.2.2.1 ≤ R.cells ∧ S'.2.2.2.2.2 ≤ R.slots) (k : ee_WS p l e R s m args below meth c Q D dA xa B ad0 y S') :
    ∀ (f : Nat) (S : ee_S), ee_gn call xt d y f S = some S' → ee_le S S' ∧ ee_WS p l e R s m args below meth c Q D dA xa B ad0 y S := by
  intro f
  induction f with
  | zero => intro S h; cases h; exact ⟨⟨Nat.le_refl _, Nat.le_refl _⟩, k⟩
  | succ f ih =>
    intro S h
    obtain ⟨pc, r⟩ := S
    unfold ee_gn at h
    rw [ee_f_eq] at h
    cases hpc : Nat.blt pc (nat_lit 1100) with
    | false => rw [ee_cf hpc] at h; cases h
    | true =>
      rw [ee_ct hpc] at h
      have hpc' : pc < 1100 := Nat.le_of_ble_eq_true hpc
      split at h
      · cases h
      · rename_i i hi
        have hsc : ee_sc y pc i = true := ee_sc_all hC.2.2.2.2.2.2.2.2.2.2 hpc' hi
        split at h
        · cases h
        · rename_i S1 hS1
          have hmono := ee_step_mono (ee_sc_spec hsc).choose_spec.2.2.2.2 hS1
          obtain ⟨hle, hw⟩ := ih S1 h
          exact ⟨⟨Nat.le_trans hmono.1 hle.1, Nat.le_trans hmono.2 hle.2⟩, ee_step_snd hR hcall hC hsc hS1 ⟨Nat.le_trans hle.1 hcap.1, Nat.le_trans hle.2 hcap.2⟩ hw⟩
end EOR
/-- one level of calls over a given one -/
def ee_lv (call : Nat → List ee_V → ee_H → Option ee_R) (xt : ee_X) (d y : Nat) (As : List ee_V) (h : ee_H) : Option ee_R :=
  bif Nat.beq y ee_yk then ee_cop As h else bif Nat.blt (nat_lit 0) y && (Nat.blt y ee_nM && Nat.beq (ee_len As) (ee_na y)) then ee_loop call xt d y (nat_lit 1000000) (nat_lit 0, ee_pad As (ee_ml y), [], h, nat_lit 0, nat_lit 0) else none
theorem ee_lv_snd {l : Launch} {D : va_G} {dA : Nat → ClassId} {xa : List Nat} {xt : ee_X} {B d : Nat} {call : Nat → List ee_V → ee_H → Option ee_R} (ih : ee_CS l D dA xa xt B d call) : ee_CS l D dA xa xt B (d + 1) (ee_lv call xt d) := by
  intro y As h rv h' c' s' hh
  unfold ee_lv at hh
  cases hk : Nat.beq y ee_yk with
  | true =>
    rw [ee_ct hk] at hh
    have e1 : y = ee_yk := Nat.eq_of_beq_eq_true hk
    subst e1
    exact ⟨Nat.succ_le_succ (Nat.zero_le d), by decide, by decide, ee_ck d As h h' rv c' s' hh⟩
  | false =>
    rw [ee_cf hk] at hh
    cases hc : (Nat.blt (nat_lit 0) y && (Nat.blt y ee_nM && Nat.beq (ee_len As) (ee_na y))) with
    | false => rw [ee_cf hc] at hh; cases hh
    | true =>
      rw [ee_ct hc] at hh
      rw [Bool.and_eq_true, Bool.and_eq_true, ee_len_eq] at hc
      have hy1 : 1 ≤ y := Nat.le_of_ble_eq_true hc.1
      have hyM : y < ee_nM := Nat.le_of_ble_eq_true hc.2.1
      have hlen : As.length = ee_na y := Nat.eq_of_beq_eq_true hc.2.2
      refine ⟨Nat.succ_le_succ (Nat.zero_le d), hy1, hyM, fun ad => ?_⟩
      refine ee_met hy1 hyM hlen ?_
      intro p e s m args below meth c hC
      exact (ee_loop_snd (R := ee_rm d c' s') hy1 ⟨Nat.le_refl _, Nat.le_refl _⟩ ih hC ⟨Nat.le_refl _, Nat.le_refl _⟩ _ _ hh).2
/-- what is known of the tables outside may be more -/
def ee_xle (xt xt' : ee_X) : Prop := ∀ (j : Nat) (L : List (Nat × Nat)), xt[j]? = some (some L) → xt'[j]? = some (some L)
theorem ee_CS_more {l : Launch} {D : va_G} {dA : Nat → ClassId} {xa : List Nat} {xt xt' : ee_X} {B d : Nat} {call : Nat → List ee_V → ee_H → Option ee_R} (hx : ee_xle xt xt') (h : ee_CS l D dA xa xt B d call) : ee_CS l D dA xa xt' B d call := by
  intro y As hh rv h' c' s' hc
  obtain ⟨h1, h2, h3, h4⟩ := h y As hh rv h' c' s' hc
  refine ⟨h1, h2, h3, fun ad => ?_⟩
  intro p e ha hf hk s m args below hfr hap hP hK
  obtain ⟨vs, ws, q1, q2, q3, q4, q5, ⟨g1, g2, g3, g4, g5, g6⟩, q7⟩ := hP
  exact h4 ad p e ha hf hk s m args below hfr hap ⟨vs, ws, q1, q2, q3, q4, q5, ⟨g1, g2, g3, g4, g5, fun j L hj => g6 j L (hx j L hj)⟩, q7⟩ hK
theorem ee_xle0 {sc : Option (List (Nat × Nat))} : ee_xle ee_X0 [sc, some ee_round] := by
  intro j L h
  match j, h with
  | 0, h => simp at h
  | 1, h => simpa using h
  | j + 2, h => simp at h
/-- one answer put before a call -/
def ee_or (y0 : Nat) (A0 : List ee_V) (g0 : ee_H) (r0 : ee_R) (call : Nat → List ee_V → ee_H → Option ee_R) (y : Nat) (As : List ee_V) (h : ee_H) : Option ee_R :=
  bif Nat.beq y y0 && (ee_bL ee_bV As A0 && ee_bH h g0) then some r0 else call y As h
theorem ee_or_snd {l : Launch} {D : va_G} {dA : Nat → ClassId} {xa : List Nat} {xt : ee_X} {B d y0 : Nat} {A0 : List ee_V} {g0 : ee_H} {rv0 : Option ee_V} {h0 : ee_H} {c0 s0 : Nat} {call : Nat → List ee_V → ee_H → Option ee_R} (hy : 1 ≤ y0 ∧ y0 < ee_nM) (hlen : A0.length = ee_na y0)
    (body : ∀ (ad : List Nat) (p : Program) (e : Env) (s : State) (m : MethodId) (args : Array Value) (below : List Frame) (meth : Method) (c : Code), ee_C p s m args meth c D dA xa xt B y0 → ee_WS p l e (ee_rm d c0 s0) s m args below meth c (MQ below (ee_Post D dA xa B ad rv0 h0) args s c0 s0 (fun q => B ≤ q)) D dA xa B ad y0 (nat_lit 0, ee_pad A0 (ee_ml y0), [], g0, nat_lit 0, nat_lit 0))
    (h : ee_CS l D dA xa xt B (d + 1) call) : ee_CS l D dA xa xt B (d + 1) (ee_or y0 A0 g0 (rv0, h0, c0, s0) call) := by
  intro y As hh rv h' c' s' hc
  unfold ee_or at hc
  cases hk : (Nat.beq y y0 && (ee_bL ee_bV As A0 && ee_bH hh g0)) with
  | false => rw [ee_cf hk] at hc; exact h y As hh rv h' c' s' hc
  | true =>
    rw [ee_ct hk] at hc
    rw [Bool.and_eq_true, Bool.and_eq_true] at hk
    have e1 : y = y0 := Nat.eq_of_beq_eq_true hk.1
    have e2 : As = A0 := ee_bL_eq ee_bV_eq hk.2.1
    have e3 : hh = g0 := ee_bH_eq hk.2.2
    subst e1; subst e2; subst e3
    cases hc
    exact ⟨Nat.succ_le_succ (Nat.zero_le d), hy.1, hy.2, fun ad => ee_met hy.1 hy.2 hlen (body ad)⟩
/-- the law's last run, with given calls -/
def ee_fic (call : Nat → List ee_V → ee_H → Option ee_R) (xt : ee_X) (S : ee_S) : Bool := match ee_go call xt 11 0 (nat_lit 1047) (nat_lit 100000) S with
  | some (pc, _, [.inl q], _, c, s) => Nat.beq pc (nat_lit 1047) && (Nat.beq q.1 (nat_lit 2147483649) && (Nat.beq q.2 (nat_lit 2147483649) && (Nat.ble c (nat_lit 600000) && Nat.ble s (nat_lit 7302250))))
  | _ => false
theorem ee_fic_snd {p : Program} {l : Launch} {e : Env} {s : State} {m : MethodId} {below : List Frame} {meth : Method} {c : Code} {D : va_G} {dA : Nat → ClassId} {xa : List Nat} {xt : ee_X} {ad0 : List Nat} {b : Nat} {call : Nat → List ee_V → ee_H → Option ee_R} (hcall : ee_CS l D dA xa xt s.heap.size 11 call) (hC : ee_C p s m #[Value.ref b] meth c D dA xa xt s.heap.size 0) {S : ee_S} (h : ee_fic call xt S = true) : ee_WS p l e room_1 s m #[Value.ref b] below meth c (lw_Z below #[Value.ref b] s) D dA xa s.heap.size ad0 0 S := by
  unfold ee_fic at h
  split at h
  · rename_i pc lo q hh cc sl hgo
    rw [Bool.and_eq_true, Bool.and_eq_true, Bool.and_eq_true, Bool.and_eq_true] at h
    obtain ⟨h1, h2, h3, h4, h5⟩ := h
    have e1 : pc = 1047 := Nat.eq_of_beq_eq_true h1
    have e2 : q.1 = 2147483649 := Nat.eq_of_beq_eq_true h2
    have e3 : q.2 = 2147483649 := Nat.eq_of_beq_eq_true h3
    have e4 : cc ≤ 600000 := Nat.le_of_ble_eq_true h4
    have e5 : sl ≤ 7302250 := Nat.le_of_ble_eq_true h5
    subst e1
    exact (ee_go_snd ee_room hcall hC ⟨e4, e5⟩ (ee_end hC e2 e3 e4 e5) _ _ hgo).2
  · cases h
/-! less known of a state -/
def ee_vle (a b : ee_V) : Bool := match b with
  | .inr (.inr 0) => true
  | .inl r => (match a with | .inl q => Nat.ble r.1 q.1 && Nat.ble q.2 r.2 | _ => false)
  | _ => ee_bV a b
theorem ee_vle_ok {ad xa : List Nat} {v : Value} : ∀ {a b : ee_V}, ee_vle a b = true → ee_ok ad xa v a → ee_ok ad xa v b
  | a, .inr (.inr 0), _, h => ee_ok_cat1 h
  | .inl q, .inl r, h, ⟨x, h1, h2⟩ => by
    have h : (Nat.ble r.1 q.1 && Nat.ble q.2 r.2) = true := h
    rw [Bool.and_eq_true] at h
    exact ⟨x, h1, Nat.le_trans (Nat.le_of_ble_eq_true h.1) h2.1, Nat.le_trans h2.2 (Nat.le_of_ble_eq_true h.2)⟩
  | .inr _, .inl _, h, _ => by cases h
  | a, .inr (.inl n), h, hh => by
    have h : ee_bV a (.inr (.inl n)) = true := h
    rw [← ee_bV_eq h]; exact hh
  | a, .inr (.inr (n + 1)), h, hh => by
    have h : ee_bV a (.inr (.inr (n + 1))) = true := h
    rw [← ee_bV_eq h]; exact hh
theorem ee_vle_ok_a2 {ad xa : List Nat} : ∀ {vs : List Value} {l k : List ee_V}, ee_bL ee_vle l k = true → ee_a2 (ee_ok ad xa) vs l → ee_a2 (ee_ok ad xa) vs k
  | [], [], [], _, _ => trivial
  | v :: vs, a :: l, b :: k, h, hh => by
    have h : (ee_vle a b && ee_bL ee_vle l k) = true := h
    rw [Bool.and_eq_true] at h
    exact ⟨ee_vle_ok h.1 hh.1, ee_vle_ok_a2 h.2 hh.2⟩
  | _, [], _ :: _, h, _ => by cases h
  | _, _ :: _, [], h, _ => by cases h
def ee_allv (b : ee_V) : List (Nat × ee_V) → Bool
  | [] => true
  | q :: l => ee_vle q.2 b && ee_allv b l
theorem ee_allv_at {d b : ee_V} (hd : ee_vle d b = true) : ∀ {ov : List (Nat × ee_V)} (j : Nat), ee_allv b ov = true → ee_vle (ee_at d ov j) b = true
  | [], j, _ => hd
  | q :: l, j, h => by
    have h : (ee_vle q.2 b && ee_allv b l) = true := h
    rw [Bool.and_eq_true] at h
    show ee_vle (bif Nat.beq q.1 j then q.2 else ee_at d l j) b = true
    cases Nat.beq q.1 j with
    | true => exact h.1
    | false => exact ee_allv_at hd j h.2
def ee_nle (a b : ee_N) : Bool := match a, b with
  | .inl x, .inl y => Nat.beq x.1 y.1 && ee_bL ee_vle x.2 y.2
  | .inr x, .inr (t, n, d, []) => Nat.beq x.1 t && (Nat.beq x.2.1 n && (ee_vle x.2.2.1 d && ee_allv d x.2.2.2))
  | .inr x, .inr (t, n, d, q :: ov) => ee_bN (.inr x) (.inr (t, n, d, q :: ov))
  | _, _ => false
theorem ee_nle_nd {dA : Nat → ClassId} {ad xa : List Nat} {e : va_E} : ∀ {a b : ee_N}, ee_nle a b = true → ee_nd dA ad xa e a → ee_nd dA ad xa e b
  | .inl (c1, f1), .inl (c2, f2), h, hh => by
    have h : (Nat.beq c1 c2 && ee_bL ee_vle f1 f2) = true := h
    rw [Bool.and_eq_true] at h
    obtain ⟨vs, h1, h2⟩ := hh
    have e1 := Nat.eq_of_beq_eq_true h.1
    subst e1
    exact ⟨vs, h1, ee_vle_ok_a2 h.2 h2⟩
  | .inr (t1, n1, d1, o1), .inr (t2, n2, d2, []), h, hh => by
    have h : (Nat.beq t1 t2 && (Nat.beq n1 n2 && (ee_vle d1 d2 && ee_allv d2 o1))) = true := h
    rw [Bool.and_eq_true, Bool.and_eq_true, Bool.and_eq_true] at h
    have e1 := Nat.eq_of_beq_eq_true h.1
    have e2 := Nat.eq_of_beq_eq_true h.2.1
    subst e1; subst e2
    rcases hh with h1 | ⟨h1, f, h2, h3⟩ | ⟨h1, h1', g, h2, h3⟩
    · exact Or.inl h1
    · exact Or.inr (Or.inl ⟨h1, f, h2, fun j hj => ee_vle_ok (ee_allv_at h.2.2.1 j h.2.2.2) (h3 j hj)⟩)
    · exact Or.inr (Or.inr ⟨h1, h1', g, h2, fun j hj => ee_vle_ok (ee_allv_at h.2.2.1 j h.2.2.2) (h3 j hj)⟩)
  | .inr (t1, n1, d1, o1), .inr (t2, n2, d2, q :: o2), h, hh => by
    have h : ee_bN (.inr (t1, n1, d1, o1)) (.inr (t2, n2, d2, q :: o2)) = true := h
    rw [← ee_bN_eq h]; exact hh
  | .inl _, .inr (_, _, _, []), h, _ => by cases h
  | .inl _, .inr (_, _, _, _ :: _), h, _ => by cases h
  | .inr _, .inl _, h, _ => by cases h
def ee_hle (a b : ee_H) : Bool := Nat.beq a.1 b.1 && ee_bL (ee_bL ee_nle) a.2 b.2
theorem ee_bL_nth {α : Type} {f : α → α → Bool} : ∀ {l k : List α} {n : Nat} {b : α}, ee_bL f l k = true → ee_nth k n = some b → ∃ a, ee_nth l n = some a ∧ f a b = true
  | [], [], n, b, _, h => by cases h
  | a :: l, c :: k, 0, b, h, hk => by
    have h : (f a c && ee_bL f l k) = true := h
    rw [Bool.and_eq_true] at h
    have hk : some c = some b := hk
    cases hk
    exact ⟨a, rfl, h.1⟩
  | a :: l, c :: k, n + 1, b, h, hk => by
    have h : (f a c && ee_bL f l k) = true := h
    rw [Bool.and_eq_true] at h
    exact ee_bL_nth (n := n) h.2 hk
  | [], _ :: _, _, _, h, _ => by cases h
  | _ :: _, [], _, _, h, _ => by cases h
theorem ee_hle_wd {dA : Nat → ClassId} {ad xa : List Nat} {ws : va_W} {a b : ee_H} (h : ee_hle a b = true) (hw : ee_wd dA ad xa ws a) : ee_wd dA ad xa ws b := by
  have h : (Nat.beq a.1 b.1 && ee_bL (ee_bL ee_nle) a.2 b.2) = true := h
  rw [Bool.and_eq_true] at h
  obtain ⟨h1, h2, h3⟩ := hw
  refine ⟨h1, h2.trans (Nat.eq_of_beq_eq_true h.1), fun k nd hk => ?_⟩
  have hk : (match ee_nth b.2 (Nat.div k (nat_lit 16)) with | none => none | some c => ee_nth c (Nat.mod k (nat_lit 16))) = some nd := hk
  split at hk
  · cases hk
  · rename_i c hc
    obtain ⟨c1, q1, q2⟩ := ee_bL_nth h.2 hc
    obtain ⟨n1, q3, q4⟩ := ee_bL_nth q2 hk
    have hg : ee_get a k = some n1 := by
      unfold ee_get
      rw [q1]
      exact q3
    obtain ⟨q, w1, w2⟩ := h3 k n1 hg
    exact ⟨q, w1, ee_nle_nd q4 w2⟩
theorem ee_lo_le {ad xa : List Nat} {ls : Array Slot} {n : Nat} {lo lo' : List ee_V} (h : ee_bL ee_vle lo lo' = true) (hl : ee_lo ad xa ls n lo) : ee_lo ad xa ls n lo' := by
  obtain ⟨h1, lv, h2, h3⟩ := hl
  have hlen : ∀ {l k : List ee_V}, ee_bL ee_vle l k = true → l.length = k.length := by
    intro l
    induction l with
    | nil => intro k h; cases k with | nil => rfl | cons _ _ => cases h
    | cons a l ih =>
      intro k h
      cases k with
      | nil => cases h
      | cons b k =>
        have h : (ee_vle a b && ee_bL ee_vle l k) = true := h
        rw [Bool.and_eq_true] at h
        simp [ih h.2]
  refine ⟨(hlen h).symm.trans h1, lv, h2, fun i a ha => ?_⟩
  obtain ⟨a0, q1, q2⟩ := ee_bL_nth h ((ee_nth_eq lo' i).trans ha)
  rw [ee_nth_eq] at q1
  rcases h3 i a0 q1 with h4 | ⟨v, h4, h5⟩
  · subst h4
    match a, q2 with
    | .inr (.inr 0), _ => exact Or.inl rfl
    | .inl _, h => cases h
    | .inr (.inl n), h => exact absurd (ee_bV_eq (show ee_bV (.inr (.inr 0)) (.inr (.inl n)) = true from h)) (by simp)
    | .inr (.inr (n + 1)), h => exact absurd (ee_bV_eq (show ee_bV (.inr (.inr 0)) (.inr (.inr (n + 1))) = true from h)) (by simp)
  · exact Or.inr ⟨v, h4, ee_vle_ok q2 h5⟩
theorem ee_WS_le {p : Program} {l : Launch} {e : Env} {R : Room} {s : State} {m : MethodId} {args : Array Value} {below : List Frame} {meth : Method} {c : Code} {Q : State → Prop} {D : va_G} {dA : Nat → ClassId} {xa : List Nat} {B : Nat} {ad0 : List Nat} {y pc : Nat} {lo lo' st st' : List ee_V} {h h' : ee_H} {r : Nat × Nat} (h1 : ee_bL ee_vle lo lo' = true) (h2 : ee_bL ee_vle st st' = true) (h3 : ee_hle h h' = true)
    (k : ee_WS p l e R s m args below meth c Q D dA xa B ad0 y (pc, lo', st', h', r)) : ee_WS p l e R s m args below meth c Q D dA xa B ad0 y (pc, lo, st, h, r) := by
  intro ad ws H locs ls vs hp hwd hP hD hS hl hv
  exact k ad ws H locs ls vs hp (ee_hle_wd h3 hwd) hP hD hS (ee_lo_le h1 hl) (ee_vle_ok_a2 h2 hv)
