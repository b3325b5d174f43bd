/-! ===== steps that leave the heap alone ===== -/
def ab_push (v : ab_A) (n : Nat) : ab_S → Option (List ab_S)
  | (pc, lo, st, r) => some [(Nat.add pc n, lo, v :: st, r)]
def ab_o1 (a n : Nat) : ab_S → Option (List ab_S)
  | (pc, lo, st, r) => match ee_nth lo a with
    | some (.inl f) => some [(Nat.add pc n, lo, .inl f :: st, r)]
    | _ => none
def ab_o2 (a n : Nat) : ab_S → Option (List ab_S)
  | (pc, lo, st, r) => match ee_nth lo a with
    | some v => bif ab_isr v then some [(Nat.add pc n, lo, v :: st, r)] else none
    | none => none
def ab_o56 (a n : Nat) : ab_S → Option (List ab_S)
  | (pc, lo, st, r) => match ee_nth lo a with
    | some v => bif ab_isl v then some [(Nat.add pc n, lo, v :: st, r)] else none
    | none => none
def ab_o3 (a n : Nat) : ab_S → Option (List ab_S)
  | (pc, lo, .inl f :: st, r) => match ab_sl lo a (.inl f) with
    | some lo' => some [(Nat.add pc n, lo', st, r)]
    | none => none
  | _ => none
def ab_o4 (a n : Nat) : ab_S → Option (List ab_S)
  | (pc, lo, v :: st, r) => bif ab_isr v then (match ab_sl lo a v with
      | some lo' => some [(Nat.add pc n, lo', st, r)]
      | none => none) else none
  | _ => none
def ab_o57 (a n : Nat) : ab_S → Option (List ab_S)
  | (pc, lo, v :: st, r) => bif ab_isl v then (match ab_sl lo a v with
      | some lo1 => (match ee_upd lo1 (Nat.succ a) (.inr (.inr (nat_lit 0))) with
        | some lo' => some [(Nat.add pc n, lo', st, r)]
        | none => none)
      | none => none) else none
  | _ => none
def ab_o22 (n : Nat) : ab_S → Option (List ab_S)
  | (pc, lo, v :: st, r) => bif ab_is1 v then some [(Nat.add pc n, lo, v :: v :: st, r)] else none
  | _ => none
def ab_o23 (n : Nat) : ab_S → Option (List ab_S)
  | (pc, lo, v :: w :: st, r) => bif ab_is1 v && ab_is1 w then some [(Nat.add pc n, lo, v :: w :: v :: w :: st, r)] else none
  | _ => none
def ab_o24 (n : Nat) : ab_S → Option (List ab_S)
  | (pc, lo, v :: st, r) => bif ab_is1 v then some [(Nat.add pc n, lo, st, r)] else none
  | _ => none
def ab_o48 (tgt : Nat) : ab_S → Option (List ab_S)
  | (_, lo, st, r) => some [(tgt, lo, st, r)]
/-- two longs: a long; a long and an int: a long -/
def ab_o60 (n : Nat) : ab_S → Option (List ab_S)
  | (pc, lo, v :: w :: st, r) => bif ab_isl v && ab_isl w then some [(Nat.add pc n, lo, .inr (.inr (nat_lit 1)) :: st, r)] else none
  | _ => none
def ab_o66 (n : Nat) : ab_S → Option (List ab_S)
  | (pc, lo, .inl _ :: w :: st, r) => bif ab_isl w then some [(Nat.add pc n, lo, .inr (.inr (nat_lit 1)) :: st, r)] else none
  | _ => none
def ab_o70 (n : Nat) : ab_S → Option (List ab_S)
  | (pc, lo, .inl _ :: st, r) => some [(Nat.add pc n, lo, .inr (.inr (nat_lit 1)) :: st, r)]
  | _ => none
section AS1
variable {cls : Nat → List ab_Cl} {p : Program} {l : Launch} {e : Env} {R : Room} {s : State} {m : MethodId} {args : Array Value} {below : List Frame} {meth : Method} {c : Code} {Q : State → Prop} {D : va_G} {dA : Nat → ClassId} {xa : List Nat} {xt : ee_X} {B : Nat} {rv0 : List Int} {sv0 : ab_B} {y : Nat}
variable {pc a b n : Nat} {r : List ab_A × List ab_A × ab_H × Nat × Nat} {L : List ab_S}
theorem as_1 (hC : ee_C p s m args meth c D dA xa xt B y) (hs : ee_sc y pc (1, a, b, n) = true) (h : ab_o1 a n (pc, r) = some L) (k : ∀ S ∈ L, ab_WS cls p l e R s m args below meth c Q D dA xa B rv0 sv0 y S) : ab_WS cls p l e R s m args below meth c Q D dA xa B rv0 sv0 y (pc, r) := by
  obtain ⟨lo, st, r⟩ := r
  unfold ab_o1 at h
  dsimp only at h
  split at h
  · rename_i f hf
    cases h
    have k := k _ List.mem_cons_self
    intro ks ws rv sv H locs ls vs hr0 hs0 hG hP hD hS hl hv
    obtain ⟨v, hv1, x, rfl, hx2⟩ := ab_lo_get hl hf (by intro z; cases z)
    exact sm_1 hC hs hv1 (k ks ws rv sv H locs ls (.int x :: vs) hr0 hs0 hG hP hD hS hl ⟨⟨x, rfl, hx2⟩, hv⟩)
  · cases h
theorem as_2 (hC : ee_C p s m args meth c D dA xa xt B y) (hs : ee_sc y pc (2, a, b, n) = true) (h : ab_o2 a n (pc, r) = some L) (k : ∀ S ∈ L, ab_WS cls p l e R s m args below meth c Q D dA xa B rv0 sv0 y S) : ab_WS cls p l e R s m args below meth c Q D dA xa B rv0 sv0 y (pc, r) := by
  obtain ⟨lo, st, r⟩ := r
  unfold ab_o2 at h
  dsimp only at h
  split at h
  · rename_i w hw
    cases hr : ab_isr w with
    | false => rw [ee_cf hr] at h; cases h
    | true =>
      rw [ee_ct hr] at h
      cases h
      have k := k _ List.mem_cons_self
      intro ks ws rv sv H locs ls vs hr0 hs0 hG hP hD hS hl hv
      obtain ⟨v, hv1, hok⟩ := ab_lo_get hl hw (by intro z; subst z; cases hr)
      exact sm_2 hC hs (ab_ok_ref hr hok) hv1 (k ks ws rv sv H locs ls (v :: vs) hr0 hs0 hG hP hD hS hl ⟨hok, hv⟩)
  · cases h
theorem as_56 (hC : ee_C p s m args meth c D dA xa xt B y) (hs : ee_sc y pc (56, a, b, n) = true) (h : ab_o56 a n (pc, r) = some L) (k : ∀ S ∈ L, ab_WS cls p l e R s m args below meth c Q D dA xa B rv0 sv0 y S) : ab_WS cls p l e R s m args below meth c Q D dA xa B rv0 sv0 y (pc, r) := by
  obtain ⟨lo, st, r⟩ := r
  unfold ab_o56 at h
  dsimp only at h
  split at h
  · rename_i w hw
    cases hr : ab_isl w with
    | false => rw [ee_cf hr] at h; cases h
    | true =>
      rw [ee_ct hr] at h
      cases h
      have k := k _ List.mem_cons_self
      intro ks ws rv sv H locs ls vs hr0 hs0 hG hP hD hS hl hv
      match w, hr, hw, k with
      | .inr (.inr 1), hr, hw, k =>
        obtain ⟨v, hv1, x, rfl⟩ := ab_lo_get hl hw (by intro z; cases z)
        exact sm_56 hC hs hv1 (k ks ws rv sv H locs ls (.long x :: vs) hr0 hs0 hG hP hD hS hl ⟨⟨x, rfl⟩, hv⟩)
  · cases h
theorem as_3 (hC : ee_C p s m args meth c D dA xa xt B y) (hs : ee_sc y pc (3, a, b, n) = true) (h : ab_o3 a n (pc, r) = some L) (k : ∀ S ∈ L, ab_WS cls p l e R s m args below meth c Q D dA xa B rv0 sv0 y S) : ab_WS cls p l e R s m args below meth c Q D dA xa B rv0 sv0 y (pc, r) := by
  unfold ab_o3 at h
  split at h
  · rename_i pc' lo w st r' heq
    cases heq
    split at h
    · rename_i lo' hu
      cases h
      have k := k _ List.mem_cons_self
      intro ks ws rv sv H locs ls vs hr0 hs0 hG hP hD hS hl hv
      match vs, hv with
      | v :: vs, ⟨⟨x, hx1, hx2⟩, hv⟩ =>
        subst hx1
        obtain ⟨hi, lv, hlv, hset⟩ := ab_lo_set hl hu (v := .int x) ⟨x, rfl, hx2⟩
        exact sm_3 hC hs hlv hi (fun ls' h' => k ks ws rv sv H locs ls' vs hr0 hs0 hG hP hD hS (hset ls' h') hv)
    · cases h
  · cases h
theorem as_4 (hC : ee_C p s m args meth c D dA xa xt B y) (hs : ee_sc y pc (4, a, b, n) = true) (h : ab_o4 a n (pc, r) = some L) (k : ∀ S ∈ L, ab_WS cls p l e R s m args below meth c Q D dA xa B rv0 sv0 y S) : ab_WS cls p l e R s m args below meth c Q D dA xa B rv0 sv0 y (pc, r) := by
  unfold ab_o4 at h
  split at h
  · rename_i pc' lo w st r' heq
    cases heq
    cases hr : ab_isr w with
    | false => rw [ee_cf hr] at h; cases h
    | true =>
      rw [ee_ct hr] at h
      split at h
      · rename_i lo' hu
        cases h
        have k := k _ List.mem_cons_self
        intro ks ws rv sv H locs ls vs hr0 hs0 hG hP hD hS hl hv
        match vs, hv with
        | v :: vs, ⟨hok, hv⟩ =>
          obtain ⟨hi, lv, hlv, hset⟩ := ab_lo_set hl hu hok
          exact sm_4 hC hs (ab_ok_ref hr hok) hlv hi (fun ls' h' => k ks ws rv sv H locs ls' vs hr0 hs0 hG hP hD hS (hset ls' h') hv)
      · cases h
  · cases h
theorem as_57 (hC : ee_C p s m args meth c D dA xa xt B y) (hs : ee_sc y pc (57, a, b, n) = true) (h : ab_o57 a n (pc, r) = some L) (k : ∀ S ∈ L, ab_WS cls p l e R s m args below meth c Q D dA xa B rv0 sv0 y S) : ab_WS cls p l e R s m args below meth c Q D dA xa B rv0 sv0 y (pc, r) := by
  unfold ab_o57 at h
  split at h
  · rename_i pc' lo w st r' heq
    cases heq
    cases hr : ab_isl w with
    | false => rw [ee_cf hr] at h; cases h
    | true =>
      rw [ee_ct hr] at h
      split at h
      · rename_i lo1 hu
        split at h
        · rename_i lo' hu2
          cases h
          have k := k _ List.mem_cons_self
          obtain ⟨g1, rfl, g2⟩ := ab_sl_spec hu
          obtain ⟨g3, rfl⟩ := ee_upd_eq hu2
          rw [List.length_set] at g3
          intro ks ws rv sv H locs ls vs hr0 hs0 hG hP hD hS hl hv
          obtain ⟨h1, lv, h2, h3⟩ := hl
          have h1 : lo.length = ee_ml y := h1
          match w, vs, hv, hr, k with
          | .inr (.inr 1), v :: vs, ⟨⟨x, hx⟩, hv⟩, hr, k =>
            subst hx
            refine sm_57 hC hs h2 (by omega) (fun ls' h' => k ks ws rv sv H locs ls' vs hr0 hs0 hG hP hD hS ⟨by rw [List.length_set, List.length_set]; exact h1, _, h', fun j b hb => ?_⟩ hv)
            by_cases hj2 : j = a + 1
            · subst hj2
              rw [List.getElem?_set_self (by rw [List.length_set]; exact g3)] at hb
              cases hb
              exact Or.inl rfl
            · rw [List.getElem?_set_ne (fun z => hj2 z.symm)] at hb
              by_cases hj : j = a
              · subst hj
                rw [List.getElem?_set_self g1] at hb
                cases hb
                exact Or.inr ⟨.long x, List.mem_cons_self, ⟨x, rfl⟩⟩
              · rw [List.getElem?_set_ne (fun z => hj z.symm)] at hb
                rcases h3 j b hb with h | ⟨w, h4, h5⟩
                · exact Or.inl h
                · refine Or.inr ⟨w, List.mem_cons_of_mem _ (List.mem_filter.mpr ⟨h4, ?_⟩), h5⟩
                  by_cases hj1 : j + 1 = a
                  · have hc : w.category = 1 := ab_ok_notl (g2 j b hj1 hb) h5
                    simp [hj, hj2, hc]
                  · simp [hj, hj1, hj2]
        · cases h
      · cases h
  · cases h
theorem as_5 (hC : ee_C p s m args meth c D dA xa xt B y) (hs : ee_sc y pc (5, a, b, n) = true) (h : ab_push (.inl (nat_lit 0, 0, (a : Int) - 2147483648)) n (pc, r) = some L) (k : ∀ S ∈ L, ab_WS cls p l e R s m args below meth c Q D dA xa B rv0 sv0 y S) : ab_WS cls p l e R s m args below meth c Q D dA xa B rv0 sv0 y (pc, r) := by
  obtain ⟨lo, st, r⟩ := r
  cases h
  have k := k _ List.mem_cons_self
  intro ks ws rv sv H locs ls vs hr0 hs0 hG hP hD hS hl hv
  refine sm_5 hC hs (fun ha => k ks ws rv sv H locs ls (.int (ee_x a) :: vs) hr0 hs0 hG hP hD hS hl ⟨⟨_, rfl, ?_⟩, hv⟩)
  have h1 := ee_zi (ee_x a)
  rw [ee_zx ha] at h1
  show some ((a : Int) - 2147483648) = _
  congr 1
  omega
theorem as_6 (hC : ee_C p s m args meth c D dA xa xt B y) (hs : ee_sc y pc (6, a, b, n) = true) (h : ab_push (.inl (nat_lit 0, 0, (b : Int) - 2147483648)) n (pc, r) = some L) (k : ∀ S ∈ L, ab_WS cls p l e R s m args below meth c Q D dA xa B rv0 sv0 y S) : ab_WS cls p l e R s m args below meth c Q D dA xa B rv0 sv0 y (pc, r) := by
  obtain ⟨lo, st, r⟩ := r
  cases h
  have k := k _ List.mem_cons_self
  intro ks ws rv sv H locs ls vs hr0 hs0 hG hP hD hS hl hv
  refine sm_6 hC hs (fun ha => k ks ws rv sv H locs ls (.int (ee_x b) :: vs) hr0 hs0 hG hP hD hS hl ⟨⟨_, rfl, ?_⟩, hv⟩)
  have h1 := ee_zi (ee_x b)
  rw [ee_zx ha] at h1
  show some ((b : Int) - 2147483648) = _
  congr 1
  omega
theorem as_54 (hC : ee_C p s m args meth c D dA xa xt B y) (hs : ee_sc y pc (54, a, b, n) = true) (h : ab_push (.inl (nat_lit 0, 0, (b : Int) - 2147483648)) n (pc, r) = some L) (k : ∀ S ∈ L, ab_WS cls p l e R s m args below meth c Q D dA xa B rv0 sv0 y S) : ab_WS cls p l e R s m args below meth c Q D dA xa B rv0 sv0 y (pc, r) := by
  obtain ⟨lo, st, r⟩ := r
  cases h
  have k := k _ List.mem_cons_self
  intro ks ws rv sv H locs ls vs hr0 hs0 hG hP hD hS hl hv
  refine sm_54 hC hs (fun ha => k ks ws rv sv H locs ls (.int (ee_x b) :: vs) hr0 hs0 hG hP hD hS hl ⟨⟨_, rfl, ?_⟩, hv⟩)
  have h1 := ee_zi (ee_x b)
  rw [ee_zx ha] at h1
  show some ((b : Int) - 2147483648) = _
  congr 1
  omega
theorem as_58 (hC : ee_C p s m args meth c D dA xa xt B y) (hs : ee_sc y pc (58, a, b, n) = true) (h : ab_push (.inr (.inr (nat_lit 1))) n (pc, r) = some L) (k : ∀ S ∈ L, ab_WS cls p l e R s m args below meth c Q D dA xa B rv0 sv0 y S) : ab_WS cls p l e R s m args below meth c Q D dA xa B rv0 sv0 y (pc, r) := by
  obtain ⟨lo, st, r⟩ := r
  cases h
  have k := k _ List.mem_cons_self
  intro ks ws rv sv H locs ls vs hr0 hs0 hG hP hD hS hl hv
  exact sm_58 hC hs (k ks ws rv sv H locs ls _ hr0 hs0 hG hP hD hS hl ⟨⟨_, rfl⟩, hv⟩)
theorem as_59 (hC : ee_C p s m args meth c D dA xa xt B y) (hs : ee_sc y pc (59, a, b, n) = true) (h : ab_push (.inr (.inr (nat_lit 1))) n (pc, r) = some L) (k : ∀ S ∈ L, ab_WS cls p l e R s m args below meth c Q D dA xa B rv0 sv0 y S) : ab_WS cls p l e R s m args below meth c Q D dA xa B rv0 sv0 y (pc, r) := by
  obtain ⟨lo, st, r⟩ := r
  cases h
  have k := k _ List.mem_cons_self
  intro ks ws rv sv H locs ls vs hr0 hs0 hG hP hD hS hl hv
  exact sm_59 hC hs (k ks ws rv sv H locs ls _ hr0 hs0 hG hP hD hS hl ⟨⟨_, rfl⟩, hv⟩)
theorem as_7 (hC : ee_C p s m args meth c D dA xa xt B y) (hs : ee_sc y pc (7, a, b, n) = true) (h : ab_push (.inr (.inr (b + 2))) n (pc, r) = some L) (k : ∀ S ∈ L, ab_WS cls p l e R s m args below meth c Q D dA xa B rv0 sv0 y S) : ab_WS cls p l e R s m args below meth c Q D dA xa B rv0 sv0 y (pc, r) := by
  obtain ⟨lo, st, r⟩ := r
  cases h
  have k := k _ List.mem_cons_self
  intro ks ws rv sv H locs ls vs hr0 hs0 hG hP hD hS hl hv
  exact sm_7 hC hs (fun ax hax => k ks ws rv sv H locs ls (.ref ax :: vs) hr0 hs0 hG hP hD hS hl ⟨⟨ax, hax, rfl⟩, hv⟩)
theorem as_27 (hC : ee_C p s m args meth c D dA xa xt B y) (hs : ee_sc y pc (27, a, b, n) = true) (h : ab_push (.inr (.inr (nat_lit 3))) n (pc, r) = some L) (k : ∀ S ∈ L, ab_WS cls p l e R s m args below meth c Q D dA xa B rv0 sv0 y S) : ab_WS cls p l e R s m args below meth c Q D dA xa B rv0 sv0 y (pc, r) := by
  obtain ⟨lo, st, r⟩ := r
  cases h
  have k := k _ List.mem_cons_self
  intro ks ws rv sv H locs ls vs hr0 hs0 hG hP hD hS hl hv
  exact sm_27 hC hs hS (fun ax hax => k ks ws rv sv H locs ls (.ref ax :: vs) hr0 hs0 hG hP hD hS hl ⟨⟨ax, hax, rfl⟩, hv⟩)
theorem as_8 (hC : ee_C p s m args meth c D dA xa xt B y) (hs : ee_sc y pc (8, a, b, n) = true) (h : ab_push (.inr (.inl (nat_lit 0))) n (pc, r) = some L) (k : ∀ S ∈ L, ab_WS cls p l e R s m args below meth c Q D dA xa B rv0 sv0 y S) : ab_WS cls p l e R s m args below meth c Q D dA xa B rv0 sv0 y (pc, r) := by
  obtain ⟨lo, st, r⟩ := r
  cases h
  have k := k _ List.mem_cons_self
  intro ks ws rv sv H locs ls vs hr0 hs0 hG hP hD hS hl hv
  exact sm_8 hC hs (k ks ws rv sv H locs ls (.null :: vs) hr0 hs0 hG hP hD hS hl ⟨rfl, hv⟩)
theorem as_22 (hC : ee_C p s m args meth c D dA xa xt B y) (hs : ee_sc y pc (22, a, b, n) = true) (h : ab_o22 n (pc, r) = some L) (k : ∀ S ∈ L, ab_WS cls p l e R s m args below meth c Q D dA xa B rv0 sv0 y S) : ab_WS cls p l e R s m args below meth c Q D dA xa B rv0 sv0 y (pc, r) := by
  unfold ab_o22 at h
  split at h
  · rename_i pc' lo w st r' heq
    cases heq
    cases hr : ab_is1 w with
    | false => rw [ee_cf hr] at h; cases h
    | true =>
      rw [ee_ct hr] at h
      cases h
      have k := k _ List.mem_cons_self
      intro ks ws rv sv H locs ls vs hr0 hs0 hG hP hD hS hl hv
      match vs, hv with
      | v :: vs, ⟨hok, hv⟩ => exact sm_22 hC hs (ab_ok_cat hr hok) (k ks ws rv sv H locs ls (v :: v :: vs) hr0 hs0 hG hP hD hS hl ⟨hok, hok, hv⟩)
  · cases h
theorem as_23 (hC : ee_C p s m args meth c D dA xa xt B y) (hs : ee_sc y pc (23, a, b, n) = true) (h : ab_o23 n (pc, r) = some L) (k : ∀ S ∈ L, ab_WS cls p l e R s m args below meth c Q D dA xa B rv0 sv0 y S) : ab_WS cls p l e R s m args below meth c Q D dA xa B rv0 sv0 y (pc, r) := by
  unfold ab_o23 at h
  split at h
  · rename_i pc' lo w w2 st r' heq
    cases heq
    cases hr : (ab_is1 w && ab_is1 w2) with
    | false => rw [ee_cf hr] at h; cases h
    | true =>
      rw [ee_ct hr] at h
      rw [Bool.and_eq_true] at hr
      cases h
      have k := k _ List.mem_cons_self
      intro ks ws rv sv H locs ls vs hr0 hs0 hG hP hD hS hl hv
      match vs, hv with
      | v :: v2 :: vs, ⟨hok, hok2, hv⟩ => exact sm_23 hC hs (ab_ok_cat hr.1 hok) (ab_ok_cat hr.2 hok2) (k ks ws rv sv H locs ls (v :: v2 :: v :: v2 :: vs) hr0 hs0 hG hP hD hS hl ⟨hok, hok2, hok, hok2, hv⟩)
  · cases h
theorem as_24 (hC : ee_C p s m args meth c D dA xa xt B y) (hs : ee_sc y pc (24, a, b, n) = true) (h : ab_o24 n (pc, r) = some L) (k : ∀ S ∈ L, ab_WS cls p l e R s m args below meth c Q D dA xa B rv0 sv0 y S) : ab_WS cls p l e R s m args below meth c Q D dA xa B rv0 sv0 y (pc, r) := by
  unfold ab_o24 at h
  split at h
  · rename_i pc' lo w st r' heq
    cases heq
    cases hr : ab_is1 w with
    | false => rw [ee_cf hr] at h; cases h
    | true =>
      rw [ee_ct hr] at h
      cases h
      have k := k _ List.mem_cons_self
      intro ks ws rv sv H locs ls vs hr0 hs0 hG hP hD hS hl hv
      match vs, hv with
      | v :: vs, ⟨hok, hv⟩ => exact sm_24 hC hs (ab_ok_cat hr hok) (k ks ws rv sv H locs ls vs hr0 hs0 hG hP hD hS hl hv)
  · cases h
theorem as_48 (hC : ee_C p s m args meth c D dA xa xt B y) (hs : ee_sc y pc (48, a, b, n) = true) (h : ab_o48 b (pc, r) = some L) (k : ∀ S ∈ L, ab_WS cls p l e R s m args below meth c Q D dA xa B rv0 sv0 y S) : ab_WS cls p l e R s m args below meth c Q D dA xa B rv0 sv0 y (pc, r) := by
  obtain ⟨lo, st, r⟩ := r
  cases h
  have k := k _ List.mem_cons_self
  intro ks ws rv sv H locs ls vs hr0 hs0 hG hP hD hS hl hv
  exact sm_48 hC hs (k ks ws rv sv H locs ls vs hr0 hs0 hG hP hD hS hl hv)
theorem as_60 {op : Nat} (h10 : 60 ≤ op) (h20 : op ≤ 65) (hC : ee_C p s m args meth c D dA xa xt B y) (hs : ee_sc y pc (op, a, b, n) = true) (h : ab_o60 n (pc, r) = some L) (k : ∀ S ∈ L, ab_WS cls p l e R s m args below meth c Q D dA xa B rv0 sv0 y S) : ab_WS cls p l e R s m args below meth c Q D dA xa B rv0 sv0 y (pc, r) := by
  unfold ab_o60 at h
  split at h
  · rename_i pc' lo w w2 st r' heq
    cases heq
    cases hr : (ab_isl w && ab_isl w2) with
    | false => rw [ee_cf hr] at h; cases h
    | true =>
      rw [ee_ct hr] at h
      rw [Bool.and_eq_true] at hr
      cases h
      have k := k _ List.mem_cons_self
      intro ks ws rv sv H locs ls vs hr0 hs0 hG hP hD hS hl hv
      match w, w2, vs, hv, hr with
      | .inr (.inr 1), .inr (.inr 1), v :: v2 :: vs, ⟨⟨x, hx⟩, ⟨x2, hx2⟩, hv⟩, _ =>
        subst hx; subst hx2
        exact sm_60 h10 h20 hC hs (fun z => k ks ws rv sv H locs ls (.long z :: vs) hr0 hs0 hG hP hD hS hl ⟨⟨z, rfl⟩, hv⟩)
  · cases h
theorem as_66 {op : Nat} (h10 : 66 ≤ op) (h20 : op ≤ 68) (hC : ee_C p s m args meth c D dA xa xt B y) (hs : ee_sc y pc (op, a, b, n) = true) (h : ab_o66 n (pc, r) = some L) (k : ∀ S ∈ L, ab_WS cls p l e R s m args below meth c Q D dA xa B rv0 sv0 y S) : ab_WS cls p l e R s m args below meth c Q D dA xa B rv0 sv0 y (pc, r) := by
  unfold ab_o66 at h
  split at h
  · rename_i pc' lo f w2 st r' heq
    cases heq
    cases hr : ab_isl w2 with
    | false => rw [ee_cf hr] at h; cases h
    | true =>
      rw [ee_ct hr] at h
      cases h
      have k := k _ List.mem_cons_self
      intro ks ws rv sv H locs ls vs hr0 hs0 hG hP hD hS hl hv
      match w2, vs, hv, hr with
      | .inr (.inr 1), v :: v2 :: vs, ⟨⟨x, hx, _⟩, ⟨x2, hx2⟩, hv⟩, _ =>
        subst hx; subst hx2
        exact sm_66 h10 h20 hC hs (fun z => k ks ws rv sv H locs ls (.long z :: vs) hr0 hs0 hG hP hD hS hl ⟨⟨z, rfl⟩, hv⟩)
  · cases h
theorem as_70 (hC : ee_C p s m args meth c D dA xa xt B y) (hs : ee_sc y pc (70, a, b, n) = true) (h : ab_o70 n (pc, r) = some L) (k : ∀ S ∈ L, ab_WS cls p l e R s m args below meth c Q D dA xa B rv0 sv0 y S) : ab_WS cls p l e R s m args below meth c Q D dA xa B rv0 sv0 y (pc, r) := by
  unfold ab_o70 at h
  split at h
  · rename_i pc' lo f st r' heq
    cases heq
    cases h
    have k := k _ List.mem_cons_self
    intro ks ws rv sv H locs ls vs hr0 hs0 hG hP hD hS hl hv
    match vs, hv with
    | v :: vs, ⟨⟨x, hx, _⟩, hv⟩ =>
      subst hx
      exact sm_70 hC hs (fun z => k ks ws rv sv H locs ls (.long z :: vs) hr0 hs0 hG hP hD hS hl ⟨⟨z, rfl⟩, hv⟩)
  · cases h
end AS1
