/-! ===== switches ===== -/
def ab_tb (h : ab_H) (f : ab_L) (mk : Nat → ab_H → ab_S) : List Nat → Int → List ab_S
  | [], _ => []
  | t :: l, v => ab_g v fun v => ab_set h f v v (fun h' => [mk t h']) [] ++ ab_tb h f mk l (v + 1)
def ab_lb (f : ab_L) (mk : Nat → ab_H → ab_S) (d : Nat) : List (Nat × Nat) → ab_H → List ab_S
  | [], h => [mk d h]
  | q :: l, h => ab_g ((q.1 : Int) - 2147483648) fun v => ab_set h f v v (fun h' => [mk q.2 h']) [] ++ ab_nee h f (nat_lit 0, 0, v) (fun h' => ab_lb f mk d l h') []
section SW
variable {cls : Nat → List ab_Cl} {dA : Nat → ClassId} {xa : List Nat} {ks : List Nat} {ws : va_W} {rv : List Int} {sv : List (Nat × Nat)} {f : ab_L} {mk : Nat → ab_H → ab_S} {x : Int32}
theorem ab_tb_snd {h : ab_H} (hG : ab_G cls dA xa ks ws rv sv h) (hx : ab_ev rv f = some x.toInt) : ∀ (tl : List Nat) (v : Int) (i : Nat), i < tl.length → x.toInt = v + (i : Int) → ∃ h', ab_G cls dA xa ks ws rv sv h' ∧ mk (tl.getD i 0) h' ∈ ab_tb h f mk tl v
  | [], v, i, hi, _ => absurd hi (Nat.not_lt_zero i)
  | t :: tl, v, 0, hi, hv => by
    unfold ab_tb
    rw [ab_g_eq]
    obtain ⟨h', g1, e1⟩ := ab_set_snd (k := fun h' => [mk t h']) (imp := ([] : List ab_S)) hG hx (lo := v) (hi := v) (by omega) (by omega)
    refine ⟨h', g1, List.mem_append_left _ ?_⟩
    rw [e1]
    exact List.mem_cons_self
  | t :: tl, v, i + 1, hi, hv => by
    unfold ab_tb
    rw [ab_g_eq]
    obtain ⟨h', g1, e1⟩ := ab_tb_snd hG hx tl (v + 1) i (by simpa using hi) (by omega)
    exact ⟨h', g1, List.mem_append_right _ e1⟩
theorem ab_lb_snd {d : Nat} (hx : ab_ev rv f = some x.toInt) : ∀ (tl : List (Nat × Nat)) (h : ab_H), ab_G cls dA xa ks ws rv sv h → ∃ h', ab_G cls dA xa ks ws rv sv h' ∧ mk (ee_lk tl (ee_z x) d) h' ∈ ab_lb f mk d tl h
  | [], h, hG => ⟨h, hG, List.mem_cons_self⟩
  | q :: tl, h, hG => by
    unfold ab_lb
    rw [ab_g_eq]
    unfold ee_lk
    have hz := ee_zi x
    cases hc : Nat.beq q.1 (ee_z x) with
    | true =>
      rw [ee_ct rfl]
      have e9 : q.1 = ee_z x := Nat.eq_of_beq_eq_true hc
      obtain ⟨h', g1, e1⟩ := ab_set_snd (k := fun h' => [mk q.2 h']) (imp := ([] : List ab_S)) hG hx (lo := (q.1 : Int) - 2147483648) (hi := (q.1 : Int) - 2147483648) (by omega) (by omega)
      refine ⟨h', g1, List.mem_append_left _ ?_⟩
      rw [e1]
      exact List.mem_cons_self
    | false =>
      rw [ee_cf rfl]
      have e9 : q.1 ≠ ee_z x := by
        intro z9
        rw [z9] at hc
        have h8 : Nat.beq (ee_z x) (ee_z x) = true := Nat.beq_refl _
        rw [hc] at h8
        cases h8
      obtain ⟨h1, g1, e1⟩ := ab_nee_snd (k := fun h' => ab_lb f mk d tl h') (imp := ([] : List ab_S)) (g := (0, 0, (q.1 : Int) - 2147483648)) hG hx (ab_ev0 rfl) (by dsimp only; omega)
      obtain ⟨h2, g2, e2⟩ := ab_lb_snd hx tl h1 g1
      refine ⟨h2, g2, List.mem_append_right _ ?_⟩
      rw [e1]
      exact e2
end SW
def ab_o49 (a : Nat) : ab_S → Option (List ab_S)
  | (_, lo, .inl f :: st, h, r) => some (ab_tb h f (fun t h' => (t, lo, st, h', r)) (ee_ts a).2.2 (((ee_ts a).1 : Int) - 2147483648) ++ (ab_set h f (-2147483648) (((ee_ts a).1 : Int) - 2147483649) (fun h' => [((ee_ts a).2.1, lo, st, h', r)]) [] ++ ab_set h f (((Nat.add (ee_ts a).1 (ee_len (ee_ts a).2.2) : Nat) : Int) - 2147483648) 2147483647 (fun h' => [((ee_ts a).2.1, lo, st, h', r)]) []))
  | _ => none
def ab_o50 (a : Nat) : ab_S → Option (List ab_S)
  | (_, lo, .inl f :: st, h, r) => some (ab_lb f (fun t h' => (t, lo, st, h', r)) (ee_ls a).1 (ee_ls a).2 h)
  | _ => none
section SW2
variable {cls : Nat → List ab_Cl} {p : Program} {l : Launch} {e : Env} {R : Room} {s : State} {m : MethodId} {args : Array Value} {below : List Frame} {meth : Method} {c : Code} {Q : State → Prop} {D : va_G} {dA : Nat → ClassId} {xa : List Nat} {xt : ee_X} {B : Nat} {rv0 : List Int} {sv0 : ab_B} {y : Nat}
variable {pc a b n : Nat} {r : List ab_A × List ab_A × ab_H × Nat × Nat} {L : List ab_S}
theorem as_49 (hC : ee_C p s m args meth c D dA xa xt B y) (hs : ee_sc y pc (49, a, b, n) = true) (h : ab_o49 a (pc, r) = some L) (k : ∀ S ∈ L, ab_WS cls p l e R s m args below meth c Q D dA xa B rv0 sv0 y S) : ab_WS cls p l e R s m args below meth c Q D dA xa B rv0 sv0 y (pc, r) := by
  unfold ab_o49 at h
  split at h
  · rename_i pc' lo f st hh r' heq
    cases heq
    cases h
    intro ks ws rv sv H locs ls vs hr0 hs0 hG hP hD hS hl hv
    match vs, hv with
    | v1 :: vs, ⟨⟨xv, e1, hx1⟩, hv⟩ =>
      subst e1
      refine sm_49 hC hs ?_
      have hz := ee_zi xv
      have bx := ab_i32 xv
      unfold ee_tg
      by_cases hc : (ee_ts a).1 ≤ ee_z xv ∧ ee_z xv < (ee_ts a).1 + (ee_ts a).2.2.length
      · rw [if_pos hc]
        obtain ⟨h', g1, e1⟩ := ab_tb_snd (mk := fun t h' => (t, lo, st, h', r')) hG hx1 (ee_ts a).2.2 (((ee_ts a).1 : Int) - 2147483648) (ee_z xv - (ee_ts a).1) (by omega) (by omega)
        exact k _ (List.mem_append_left _ e1) ks ws rv sv H locs ls vs hr0 hs0 g1 hP hD hS hl hv
      · rw [if_neg hc]
        by_cases h1 : ee_z xv < (ee_ts a).1
        · obtain ⟨h', g1, e1⟩ := ab_set_snd (k := fun h' => [((ee_ts a).2.1, lo, st, h', r')]) (imp := ([] : List ab_S)) hG hx1 (lo := -2147483648) (hi := ((ee_ts a).1 : Int) - 2147483649) (by omega) (by omega)
          refine k ((ee_ts a).2.1, lo, st, h', r') (List.mem_append_right _ (List.mem_append_left _ ?_)) ks ws rv sv H locs ls vs hr0 hs0 g1 hP hD hS hl hv
          rw [e1]
          exact List.mem_cons_self
        · have e9 : Nat.add (ee_ts a).1 (ee_len (ee_ts a).2.2) = (ee_ts a).1 + (ee_ts a).2.2.length := by rw [ee_len_eq]; rfl
          obtain ⟨h', g1, e1⟩ := ab_set_snd (k := fun h' => [((ee_ts a).2.1, lo, st, h', r')]) (imp := ([] : List ab_S)) hG hx1 (lo := ((Nat.add (ee_ts a).1 (ee_len (ee_ts a).2.2) : Nat) : Int) - 2147483648) (hi := 2147483647) (by rw [e9]; omega) (by omega)
          refine k ((ee_ts a).2.1, lo, st, h', r') (List.mem_append_right _ (List.mem_append_right _ ?_)) ks ws rv sv H locs ls vs hr0 hs0 g1 hP hD hS hl hv
          rw [e1]
          exact List.mem_cons_self
  · cases h
theorem as_50 (hC : ee_C p s m args meth c D dA xa xt B y) (hs : ee_sc y pc (50, a, b, n) = true) (h : ab_o50 a (pc, r) = some L) (k : ∀ S ∈ L, ab_WS cls p l e R s m args below meth c Q D dA xa B rv0 sv0 y S) : ab_WS cls p l e R s m args below meth c Q D dA xa B rv0 sv0 y (pc, r) := by
  unfold ab_o50 at h
  split at h
  · rename_i pc' lo f st hh r' heq
    cases heq
    cases h
    intro ks ws rv sv H locs ls vs hr0 hs0 hG hP hD hS hl hv
    match vs, hv with
    | v1 :: vs, ⟨⟨xv, e1, hx1⟩, hv⟩ =>
      subst e1
      refine sm_50 hC hs ?_
      obtain ⟨h', g1, e1⟩ := ab_lb_snd (mk := fun t h' => (t, lo, st, h', r')) (d := (ee_ls a).1) hx1 (ee_ls a).2 hh hG
      exact k _ e1 ks ws rv sv H locs ls vs hr0 hs0 g1 hP hD hS hl hv
  · cases h
end SW2
