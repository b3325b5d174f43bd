section ES2
variable {p : Program} {l : Launch} {e : Env} {R : Room} {s : State} {m : MethodId} {args : Array Value} {below : List Frame} {meth : Method} {c : Code} {Q : State → Prop} {D : va_G} {dA : Nat → ClassId} {xa : List Nat} {xt : ee_X} {B : Nat} {ad0 : List Nat} {y : Nat}
variable {pc a b n : Nat} {r : List ee_V × List ee_V × ee_H × Nat × Nat} {S' : ee_S}
theorem es_o10 {op : Nat} (h10 : 10 ≤ op) (h20 : op ≤ 20) (hC : ee_C p s m args meth c D dA xa xt B y) (hs : ee_sc y pc (op, a, b, n) = true) (h : ee_o10 op n (pc, r) = some S') (k : ee_WS p l e R s m args below meth c Q D dA xa B ad0 y S') : ee_WS p l e R s m args below meth c Q D dA xa B ad0 y (pc, r) := by
  obtain ⟨q, hq, hd, hn, hx, -⟩ := ee_sc_spec hs
  obtain ⟨he, hb, -⟩ := id hC
  unfold ee_o10 at h
  split at h
  · rename_i pc' lo wy wx st r' heq
    cases heq
    obtain ⟨rr, h1, h2⟩ := ee_bin_in h10 h20 h
    cases h1
    intro ad ws H locs ls vs hp hwd hP hD hS hl hv
    match vs, hv with
    | v1 :: v2 :: vs, ⟨⟨yv, e1, hy1⟩, ⟨xv, e2, hx1⟩, hv⟩ =>
      subst e1; subst e2
      obtain ⟨hin, hnz⟩ := h2 xv yv hx1 hy1
      have k' := k ad ws H locs ls (.int (ee_fo op xv yv) :: vs) hp hwd hP hD hS hl ⟨⟨_, rfl, hin⟩, hv⟩
      rcases (show op = 10 ∨ op = 11 ∨ op = 12 ∨ op = 13 ∨ op = 14 ∨ op = 15 ∨ op = 16 ∨ op = 17 ∨ op = 18 ∨ op = 19 ∨ op = 20 by omega) with rfl | rfl | rfl | rfl | rfl | rfl | rfl | rfl | rfl | rfl | rfl
      · cases (show some (Instr.iadd, 1) = some q from hq); cases hn; exact lv_iadd he hb hd k'
      · cases (show some (Instr.isub, 1) = some q from hq); cases hn; exact lv_isub he hb hd k'
      · cases (show some (Instr.imul, 1) = some q from hq); cases hn; exact lv_imul he hb hd k'
      · cases (show some (Instr.iand, 1) = some q from hq); cases hn; exact lv_iand he hb hd k'
      · cases (show some (Instr.ior, 1) = some q from hq); cases hn; exact lv_ior he hb hd k'
      · cases (show some (Instr.ixor, 1) = some q from hq); cases hn; exact lv_ixor he hb hd k'
      · cases (show some (Instr.ishl, 1) = some q from hq); cases hn; exact lv_ishl he hb hd k'
      · cases (show some (Instr.ishr, 1) = some q from hq); cases hn; exact lv_ishr he hb hd k'
      · cases (show some (Instr.iushr, 1) = some q from hq); cases hn; exact lv_iushr he hb hd rfl k'
      · cases (show some (Instr.idiv, 1) = some q from hq); cases hn; exact lv_idiv he hb hd (hnz (by decide)) k'
      · cases (show some (Instr.irem, 1) = some q from hq); cases hn; exact lv_irem he hb hd (hnz (by decide)) k'
  · cases h
theorem es_o22 (hC : ee_C p s m args meth c D dA xa xt B y) (hs : ee_sc y pc (22, a, b, n) = true) (h : ee_o22 n (pc, r) = some S') (k : ee_WS p l e R s m args below meth c Q D dA xa B ad0 y S') : ee_WS p l e R s m args below meth c Q D dA xa B ad0 y (pc, r) := by
  obtain ⟨q, hq, hd, hn, hx, -⟩ := ee_sc_spec hs
  obtain ⟨he, hb, -⟩ := id hC
  unfold ee_o22 at h
  split at h
  · rename_i pc' lo w st r' heq
    cases heq
    cases hr : ee_isv w with
    | false => rw [ee_cf hr] at h; cases h
    | true =>
      rw [ee_ct hr] at h
      cases h
      intro ad ws H locs ls vs hp hwd hP hD hS hl hv
      match vs, hv with
      | v :: vs, ⟨hok, hv⟩ =>
        have k' := k ad ws H locs ls (v :: v :: vs) hp hwd hP hD hS hl ⟨hok, hok, hv⟩
        cases (show some (Instr.dup, 1) = some q from hq)
        cases hn
        exact lv_dup he hb hd (ee_ok_cat hr hok) k'
  · cases h
theorem es_o23 (hC : ee_C p s m args meth c D dA xa xt B y) (hs : ee_sc y pc (23, a, b, n) = true) (h : ee_o23 n (pc, r) = some S') (k : ee_WS p l e R s m args below meth c Q D dA xa B ad0 y S') : ee_WS p l e R s m args below meth c Q D dA xa B ad0 y (pc, r) := by
  obtain ⟨q, hq, hd, hn, hx, -⟩ := ee_sc_spec hs
  obtain ⟨he, hb, -⟩ := id hC
  unfold ee_o23 at h
  split at h
  · rename_i pc' lo w w2 st r' heq
    cases heq
    cases hr : (ee_isv w && ee_isv w2) with
    | false => rw [ee_cf hr] at h; cases h
    | true =>
      rw [ee_ct hr] at h
      rw [Bool.and_eq_true] at hr
      cases h
      intro ad ws H locs ls vs hp hwd hP hD hS hl hv
      match vs, hv with
      | v :: v2 :: vs, ⟨hok, hok2, hv⟩ =>
        have k' := k ad ws H locs ls (v :: v2 :: v :: v2 :: vs) hp hwd hP hD hS hl ⟨hok, hok2, hok, hok2, hv⟩
        cases (show some (Instr.dup2, 1) = some q from hq)
        cases hn
        exact lv_dup2_11 he hb hd (ee_ok_cat hr.1 hok) (ee_ok_cat hr.2 hok2) k'
  · cases h
theorem es_o24 (hC : ee_C p s m args meth c D dA xa xt B y) (hs : ee_sc y pc (24, a, b, n) = true) (h : ee_o24 n (pc, r) = some S') (k : ee_WS p l e R s m args below meth c Q D dA xa B ad0 y S') : ee_WS p l e R s m args below meth c Q D dA xa B ad0 y (pc, r) := by
  obtain ⟨q, hq, hd, hn, hx, -⟩ := ee_sc_spec hs
  obtain ⟨he, hb, -⟩ := id hC
  unfold ee_o24 at h
  split at h
  · rename_i pc' lo w st r' heq
    cases heq
    cases hr : ee_isv w with
    | false => rw [ee_cf hr] at h; cases h
    | true =>
      rw [ee_ct hr] at h
      cases h
      intro ad ws H locs ls vs hp hwd hP hD hS hl hv
      match vs, hv with
      | v :: vs, ⟨hok, hv⟩ =>
        have k' := k ad ws H locs ls vs hp hwd hP hD hS hl hv
        cases (show some (Instr.pop, 1) = some q from hq)
        cases hn
        exact lv_pop he hb hd (ee_ok_cat hr hok) k'
  · cases h
/-! branches -/
theorem es_o44 (hC : ee_C p s m args meth c D dA xa xt B y) (hs : ee_sc y pc (44, a, b, n) = true) (h : ee_o44 a b n (pc, r) = some S') (k : ee_WS p l e R s m args below meth c Q D dA xa B ad0 y S') : ee_WS p l e R s m args below meth c Q D dA xa B ad0 y (pc, r) := by
  obtain ⟨q, hq, hd, hn, hx, -⟩ := ee_sc_spec hs
  obtain ⟨he, hb, -⟩ := id hC
  cases (show some (Instr.if_icmp (ee_cc a) ((b : Int) - pc), 3) = some q from hq)
  cases hn
  unfold ee_o44 at h
  split at h
  · rename_i pc' lo wy wx st r' heq
    cases heq
    have main : ∀ v : Bool, ee_cmp a wx wy = some v → S' = (bif v then (b, lo, st, r') else (Nat.add pc 3, lo, st, r')) → ee_WS p l e R s m args below meth c Q D dA xa B ad0 y (pc, lo, .inl wy :: .inl wx :: st, r') := by
      intro v hv9 hS9
      subst hS9
      intro ad ws H locs ls vs hp hwd hP hD hS hl hv
      match vs, hv with
      | v1 :: v2 :: vs, ⟨⟨yv, e1, hy1⟩, ⟨xv, e2, hx1⟩, hv⟩ =>
        subst e1; subst e2
        have hch := ee_cmp_in hv9 hx1 hy1
        have ht : (pc : Int) + ((b : Int) - pc) = (b : Int) := by omega
        have kt : ee_ch a xv yv → W p l e R s m args below meth c H locs r'.2.1 r'.2.2 Q (F0 m b ls vs) := fun z => by
          rw [hch.mpr z] at k
          exact k ad ws H locs ls vs hp hwd hP hD hS hl hv
        have kf : ¬ ee_ch a xv yv → W p l e R s m args below meth c H locs r'.2.1 r'.2.2 Q (F0 m (pc + 3) ls vs) := fun z => by
          have : v = false := by cases v with
            | false => rfl
            | true => exact absurd (hch.mp rfl) z
          rw [this] at k
          exact k ad ws H locs ls vs hp hwd hP hD hS hl hv
        match a, hd, kt, kf with
        | 0, hd, kt, kf => exact lv_icmp_eq he hb hd ht kt kf
        | 1, hd, kt, kf => exact lv_icmp_ne he hb hd ht kt (fun z => kf (fun q => q z))
        | 2, hd, kt, kf => exact lv_icmp_lt he hb hd ht kt kf
        | 3, hd, kt, kf => exact lv_icmp_ge he hb hd ht (fun z => kt (Int32.not_lt.mpr z)) (fun z => kf (fun q => z (Int32.not_lt.mp q)))
        | 4, hd, kt, kf => exact lv_icmp_gt he hb hd ht kt kf
        | z + 5, hd, kt, kf => exact lv_icmp_le he hb hd ht (fun z => kt (Int32.not_lt.mpr z)) (fun z => kf (fun q => z (Int32.not_lt.mp q)))
    split at h
    · rename_i hc9
      cases h
      exact main true hc9 rfl
    · rename_i hc9
      cases h
      exact main false hc9 rfl
    · cases h
  · cases h
theorem es_o45 (hC : ee_C p s m args meth c D dA xa xt B y) (hs : ee_sc y pc (45, a, b, n) = true) (h : ee_o45 a b n (pc, r) = some S') (k : ee_WS p l e R s m args below meth c Q D dA xa B ad0 y S') : ee_WS p l e R s m args below meth c Q D dA xa B ad0 y (pc, r) := by
  obtain ⟨q, hq, hd, hn, hx, -⟩ := ee_sc_spec hs
  obtain ⟨he, hb, -⟩ := id hC
  cases (show some (Instr.ifCond (ee_cc a) ((b : Int) - pc), 3) = some q from hq)
  cases hn
  unfold ee_o45 at h
  split at h
  · rename_i pc' lo wx st r' heq
    cases heq
    have main : ∀ v : Bool, ee_cmp a wx (nat_lit 2147483648, nat_lit 2147483648) = some v → S' = (bif v then (b, lo, st, r') else (Nat.add pc 3, lo, st, r')) → ee_WS p l e R s m args below meth c Q D dA xa B ad0 y (pc, lo, .inl wx :: st, r') := by
      intro v hv9 hS9
      subst hS9
      intro ad ws H locs ls vs hp hwd hP hD hS hl hv
      match vs, hv with
      | v2 :: vs, ⟨⟨xv, e2, hx1⟩, hv⟩ =>
        subst e2
        have h0 : ee_in 0 (nat_lit 2147483648, nat_lit 2147483648) := by
          refine ⟨?_, ?_⟩
          · show 2147483648 ≤ _; rw [ee_z0]; exact Nat.le_refl _
          · show _ ≤ 2147483648; rw [ee_z0]; exact Nat.le_refl _
        have hch := ee_cmp_in hv9 hx1 h0
        have ht : (pc : Int) + ((b : Int) - pc) = (b : Int) := by omega
        have kt : ee_ch a xv 0 → W p l e R s m args below meth c H locs r'.2.1 r'.2.2 Q (F0 m b ls vs) := fun z => by
          rw [hch.mpr z] at k
          exact k ad ws H locs ls vs hp hwd hP hD hS hl hv
        have kf : ¬ ee_ch a xv 0 → W p l e R s m args below meth c H locs r'.2.1 r'.2.2 Q (F0 m (pc + 3) ls vs) := fun z => by
          have : v = false := by cases v with
            | false => rfl
            | true => exact absurd (hch.mp rfl) z
          rw [this] at k
          exact k ad ws H locs ls vs hp hwd hP hD hS hl hv
        match a, hd, kt, kf with
        | 0, hd, kt, kf => exact lv_if_eq he hb hd ht kt kf
        | 1, hd, kt, kf => exact lv_if_ne he hb hd ht kt (fun z => kf (fun q => q z))
        | 2, hd, kt, kf => exact lv_if_lt he hb hd ht kt kf
        | 3, hd, kt, kf => exact lv_if_ge he hb hd ht (fun z => kt (Int32.not_lt.mpr z)) (fun z => kf (fun q => z (Int32.not_lt.mp q)))
        | 4, hd, kt, kf => exact lv_if_gt he hb hd ht kt kf
        | z + 5, hd, kt, kf => exact lv_if_le he hb hd ht (fun z => kt (Int32.not_lt.mpr z)) (fun z => kf (fun q => z (Int32.not_lt.mp q)))
    split at h
    · rename_i hc9
      cases h
      exact main true hc9 rfl
    · rename_i hc9
      cases h
      exact main false hc9 rfl
    · cases h
  · cases h
theorem es_o46 (hC : ee_C p s m args meth c D dA xa xt B y) (hs : ee_sc y pc (46, a, b, n) = true) (h : ee_o46 true b n (pc, r) = some S') (k : ee_WS p l e R s m args below meth c Q D dA xa B ad0 y S') : ee_WS p l e R s m args below meth c Q D dA xa B ad0 y (pc, r) := by
  obtain ⟨q, hq, hd, hn, hx, -⟩ := ee_sc_spec hs
  obtain ⟨he, hb, -⟩ := id hC
  cases (show some (Instr.ifnull ((b : Int) - pc), 3) = some q from hq)
  cases hn
  have ht : (pc : Int) + ((b : Int) - pc) = (b : Int) := by omega
  unfold ee_o46 at h
  split at h
  · rename_i pc' lo st r' heq
    cases heq
    cases h
    intro ad ws H locs ls vs hp hwd hP hD hS hl hv
    match vs, hv with
    | v :: vs, ⟨hok, hv⟩ =>
      cases (show v = .null from hok)
      exact lv_ifnullN he hb hd ht (k ad ws H locs ls vs hp hwd hP hD hS hl hv)
  · rename_i pc' lo z st r' heq
    cases heq
    cases h
    intro ad ws H locs ls vs hp hwd hP hD hS hl hv
    match vs, hv with
    | v :: vs, ⟨⟨x, _, e9⟩, hv⟩ =>
      subst e9
      exact lv_ifnull he hb hd (k ad ws H locs ls vs hp hwd hP hD hS hl hv)
  · cases h
theorem es_o47 (hC : ee_C p s m args meth c D dA xa xt B y) (hs : ee_sc y pc (47, a, b, n) = true) (h : ee_o46 false b n (pc, r) = some S') (k : ee_WS p l e R s m args below meth c Q D dA xa B ad0 y S') : ee_WS p l e R s m args below meth c Q D dA xa B ad0 y (pc, r) := by
  obtain ⟨q, hq, hd, hn, hx, -⟩ := ee_sc_spec hs
  obtain ⟨he, hb, -⟩ := id hC
  cases (show some (Instr.ifnonnull ((b : Int) - pc), 3) = some q from hq)
  cases hn
  have ht : (pc : Int) + ((b : Int) - pc) = (b : Int) := by omega
  unfold ee_o46 at h
  split at h
  · rename_i pc' lo st r' heq
    cases heq
    cases h
    intro ad ws H locs ls vs hp hwd hP hD hS hl hv
    match vs, hv with
    | v :: vs, ⟨hok, hv⟩ =>
      cases (show v = .null from hok)
      exact lv_ifnonnullN he hb hd (k ad ws H locs ls vs hp hwd hP hD hS hl hv)
  · rename_i pc' lo z st r' heq
    cases heq
    cases h
    intro ad ws H locs ls vs hp hwd hP hD hS hl hv
    match vs, hv with
    | v :: vs, ⟨⟨x, _, e9⟩, hv⟩ =>
      subst e9
      exact lv_ifnonnull he hb hd ht (k ad ws H locs ls vs hp hwd hP hD hS hl hv)
  · cases h
theorem es_o48 (hC : ee_C p s m args meth c D dA xa xt B y) (hs : ee_sc y pc (48, a, b, n) = true) (h : ee_o48 b (pc, r) = some S') (k : ee_WS p l e R s m args below meth c Q D dA xa B ad0 y S') : ee_WS p l e R s m args below meth c Q D dA xa B ad0 y (pc, r) := by
  obtain ⟨lo, st, r⟩ := r
  obtain ⟨q, hq, hd, hn, hx, -⟩ := ee_sc_spec hs
  obtain ⟨he, hb, -⟩ := id hC
  cases (show some (Instr.goto ((b : Int) - pc), 3) = some q from hq)
  cases hn
  have ht : (pc : Int) + ((b : Int) - pc) = (b : Int) := by omega
  cases h
  intro ad ws H locs ls vs hp hwd hP hD hS hl hv
  exact lv_goto he hb hd ht (k ad ws H locs ls vs hp hwd hP hD hS hl hv)
theorem es_o49 (hC : ee_C p s m args meth c D dA xa xt B y) (hs : ee_sc y pc (49, a, b, n) = true) (h : ee_o49 (ee_ts a) (pc, r) = some S') (k : ee_WS p l e R s m args below meth c Q D dA xa B ad0 y S') : ee_WS p l e R s m args below meth c Q D dA xa B ad0 y (pc, r) := by
  obtain ⟨q, hq, hd, hn, hx, -⟩ := ee_sc_spec hs
  obtain ⟨he, hb, -⟩ := id hC
  cases (show some (Instr.tableswitch (ee_tsi a).1 (ee_tsi a).2.1 (ee_tsi a).2.2.1 (ee_tsi a).2.2.2, b) = some q from hq)
  have hx' : ee_tsk pc (ee_ts a) (ee_tsi a) = true := hx
  generalize ee_ts a = t at h hx'
  generalize ee_tsi a = u at hd hx'
  unfold ee_tsk at hx'
  simp only [Bool.and_eq_true, decide_eq_true_eq] at hx'
  obtain ⟨g1, g2, g3, g4⟩ := hx'
  unfold ee_o49 at h
  split at h
  · rename_i pc' lo w st r' heq
    cases heq
    cases h1 : (Nat.beq w.1 w.2 && (Nat.ble t.1 w.1 && Nat.blt w.1 (Nat.add t.1 (ee_len t.2.2)))) with
    | true =>
      rw [ee_ct h1] at h
      simp only [Bool.and_eq_true] at h1
      have e1 : w.1 = w.2 := Nat.eq_of_beq_eq_true h1.1
      have e2 : t.1 ≤ w.1 := Nat.le_of_ble_eq_true h1.2.1
      have e3 : w.1 < t.1 + ee_len t.2.2 := Nat.le_of_ble_eq_true h1.2.2
      rw [ee_len_eq] at e3
      split at h
      · rename_i tg htg
        cases h
        intro ad ws H locs ls vs hp hwd hP hD hS hl hv
        match vs, hv with
        | v :: vs, ⟨⟨xv, e9, hx1⟩, hv⟩ =>
          subst e9
          have hz := ee_zi xv
          have hz2 : ee_z xv = w.1 := by have := hx1.1; have := hx1.2; omega
          rw [ee_nth_eq] at htg
          have htg' : t.2.2[w.1 - t.1]? = some tg := htg
          have h5 : (u.2.2.2.toList.map (fun o => (pc : Int) + o))[w.1 - t.1]? = some (tg : Int) := by
            rw [g4, List.getElem?_map, htg']; rfl
          rw [List.getElem?_map] at h5
          cases h6 : u.2.2.2.toList[w.1 - t.1]? with
          | none => rw [h6] at h5; cases h5
          | some off =>
            rw [h6] at h5
            have h7 : (pc : Int) + off = tg := by simpa using h5
            refine lv_tableIn he hb hd (by omega) (by omega) (off := off) ?_ h7 (k ad ws H locs ls vs hp hwd hP hD hS hl hv)
            rw [← Array.getElem?_toList, show (xv.toInt - u.2.1).toNat = w.1 - t.1 by omega]
            exact h6
      · cases h
    | false =>
      rw [ee_cf h1] at h
      cases h2 : (Nat.blt w.2 t.1 || Nat.ble (Nat.add t.1 (ee_len t.2.2)) w.1) with
      | false => rw [ee_cf h2] at h; cases h
      | true =>
        rw [ee_ct h2] at h
        cases h
        rw [Bool.or_eq_true] at h2
        intro ad ws H locs ls vs hp hwd hP hD hS hl hv
        match vs, hv with
        | v :: vs, ⟨⟨xv, e9, hx1⟩, hv⟩ =>
          subst e9
          have hz := ee_zi xv
          have q1 := hx1.1
          have q2 := hx1.2
          refine lv_tableOut he hb hd ?_ g2 (k ad ws H locs ls vs hp hwd hP hD hS hl hv)
          rcases h2 with h2 | h2
          · have : w.2 < t.1 := Nat.le_of_ble_eq_true h2
            exact Or.inl (by omega)
          · have h3 : t.1 + ee_len t.2.2 ≤ w.1 := Nat.le_of_ble_eq_true h2
            rw [ee_len_eq] at h3
            exact Or.inr (by omega)
  · cases h
theorem ee_lk_off {pc : Nat} : ∀ {t : List (Nat × Nat)} {d : Nat} {u : List (Int × Int)} {ud : Int} {x : Int32}, u.map (fun q : Int × Int => (q.1 + 2147483648, (pc : Int) + q.2)) = t.map (fun q : Nat × Nat => ((q.1 : Int), (q.2 : Int))) → (pc : Int) + ud = (d : Int) → (pc : Int) + Op.lookupswitch.offset u ud x.toInt = (ee_lk t (ee_z x) d : Int)
  | [], d, [], ud, x, _, h => h
  | q :: t, d, w :: u, ud, x, h, hd => by
    simp only [List.map_cons, List.cons.injEq, Prod.mk.injEq] at h
    have hz := ee_zi x
    obtain ⟨w1, w2⟩ := w
    rw [Op.lookupswitch.offset_cons]
    show _ = ((bif Nat.beq q.1 (ee_z x) then q.2 else ee_lk t (ee_z x) d : Nat) : Int)
    by_cases hq : q.1 = ee_z x
    · rw [hq, ee_ct (Nat.beq_refl _)]
      dsimp only at h
      split
      · exact h.1.2
      · rename_i h9
        exact absurd (by omega) h9
    · rw [ee_cf (ee_bn hq)]
      dsimp only at h
      split
      · rename_i h9
        exact absurd (by omega) hq
      · exact ee_lk_off h.2 hd
theorem es_o50 (hC : ee_C p s m args meth c D dA xa xt B y) (hs : ee_sc y pc (50, a, b, n) = true) (h : ee_o50 (ee_ls a) (pc, r) = some S') (k : ee_WS p l e R s m args below meth c Q D dA xa B ad0 y S') : ee_WS p l e R s m args below meth c Q D dA xa B ad0 y (pc, r) := by
  obtain ⟨q, hq, hd, hn, hx, -⟩ := ee_sc_spec hs
  obtain ⟨he, hb, -⟩ := id hC
  cases (show some (Instr.lookupswitch (ee_lsi a).1 (ee_lsi a).2, b) = some q from hq)
  have hx' : ee_lsk pc (ee_ls a) (ee_lsi a) = true := hx
  generalize ee_ls a = t at h hx'
  generalize ee_lsi a = u at hd hx'
  unfold ee_lsk at hx'
  rw [Bool.and_eq_true, Bool.and_eq_true] at hx'
  obtain ⟨g1, g2, g3⟩ := hx'
  have g1 := of_decide_eq_true g1
  have g2 := of_decide_eq_true g2
  unfold ee_o50 at h
  split at h
  · rename_i pc' lo w st r' heq
    cases heq
    cases h1 : Nat.beq w.1 w.2 with
    | false => rw [ee_cf h1] at h; cases h
    | true =>
      rw [ee_ct h1, ee_f_eq] at h
      cases h
      have e1 : w.1 = w.2 := Nat.eq_of_beq_eq_true h1
      intro ad ws H locs ls vs hp hwd hP hD hS hl hv
      match vs, hv with
      | v :: vs, ⟨⟨xv, e9, hx1⟩, hv⟩ =>
        subst e9
        have hz2 : ee_z xv = w.1 := by have := hx1.1; have := hx1.2; omega
        have ho := ee_lk_off (x := xv) g2 g1
        rw [hz2] at ho
        exact lv_lookup he hb hd g3 rfl ho (k ad ws H locs ls vs hp hwd hP hD hS hl hv)
  · cases h
end ES2
