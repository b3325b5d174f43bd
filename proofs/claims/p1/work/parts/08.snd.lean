/-! ===== each instruction of the engine, over the kit's rows ===== -/
theorem ee_two {b : Nat} {X Y q : Instr × Nat} (hq : (if b = 0 then some X else some Y) = some q) : (b = 0 ∧ q = X) ∨ (b ≠ 0 ∧ q = Y) := by
  by_cases h : b = 0
  · rw [if_pos h] at hq; cases hq; exact Or.inl ⟨h, rfl⟩
  · rw [if_neg h] at hq; cases hq; exact Or.inr ⟨h, rfl⟩
theorem ee_fin4 {a b : Nat} (hx : decide (b = 0 ∨ a < 4) = true) (hb : b ≠ 0) : ((Fin.ofNat 4 a : Fin 4) : Nat) = a := by
  have h := of_decide_eq_true hx
  show a % 4 = a
  omega
section ES
variable {p : Program} {l : Launch} {e : Env} {R : Room} {s : State} {m : MethodId} {args : Array Value} {below : List Frame} {meth : Method} {c : Code} {Q : State → Prop} {D : va_G} {dA : Nat → ClassId} {xa : List Nat} {xt : ee_X} {B : Nat} {ad0 : List Nat} {y : Nat}
variable {pc a b n : Nat} {r : List ee_V × List ee_V × ee_H × Nat × Nat} {S' : ee_S}
theorem es_o1 (hC : ee_C p s m args meth c D dA xa xt B y) (hs : ee_sc y pc (1, a, b, n) = true) (h : ee_o1 a n (pc, r) = some S') (k : ee_WS p l e R s m args below meth c Q D dA xa B ad0 y S') : ee_WS p l e R s m args below meth c Q D dA xa B ad0 y (pc, r) := by
  obtain ⟨lo, st, r⟩ := r
  obtain ⟨q, hq, hd, hn, hx, -⟩ := ee_sc_spec hs
  obtain ⟨he, hb, -⟩ := id hC
  unfold ee_o1 at h
  dsimp only at h
  split at h
  · rename_i w hw
    cases h
    intro ad ws H locs ls vs hp hwd hP hD hS hl hv
    obtain ⟨v, hv1, x, rfl, hx2⟩ := ee_lo_get hl hw rfl
    have k' := k ad ws H locs ls (.int x :: vs) hp hwd hP hD hS hl ⟨⟨x, rfl, hx2⟩, hv⟩
    rcases ee_two hq with ⟨-, rfl⟩ | ⟨hb0, rfl⟩
    · cases hn
      exact lv_iload he hb hd hv1 k'
    · cases hn
      exact lv_iload_n he hb hd (ee_fin4 hx hb0) hv1 k'
  · cases h
theorem es_o2 (hC : ee_C p s m args meth c D dA xa xt B y) (hs : ee_sc y pc (2, a, b, n) = true) (h : ee_o2 a n (pc, r) = some S') (k : ee_WS p l e R s m args below meth c Q D dA xa B ad0 y S') : ee_WS p l e R s m args below meth c Q D dA xa B ad0 y (pc, r) := by
  obtain ⟨lo, st, r⟩ := r
  obtain ⟨q, hq, hd, hn, hx, -⟩ := ee_sc_spec hs
  obtain ⟨he, hb, -⟩ := id hC
  unfold ee_o2 at h
  dsimp only at h
  split at h
  · rename_i w hw
    cases hr : ee_isr w with
    | false => rw [ee_cf hr] at h; cases h
    | true =>
      rw [ee_ct hr] at h
      cases h
      intro ad ws H locs ls vs hp hwd hP hD hS hl hv
      obtain ⟨v, hv1, hok⟩ := ee_lo_get hl hw (ee_isr_v hr)
      have k' := k ad ws H locs ls (v :: vs) hp hwd hP hD hS hl ⟨hok, hv⟩
      rcases ee_two hq with ⟨-, rfl⟩ | ⟨hb0, rfl⟩
      · cases hn
        rcases ee_ok_ref hr hok with rfl | ⟨x, rfl⟩
        · exact lv_aloadN he hb hd hv1 k'
        · exact lv_aload he hb hd hv1 k'
      · cases hn
        rcases ee_ok_ref hr hok with rfl | ⟨x, rfl⟩
        · exact lv_aload_nN he hb hd (ee_fin4 hx hb0) hv1 k'
        · exact lv_aload_n he hb hd (ee_fin4 hx hb0) hv1 k'
  · cases h
theorem es_o3 (hC : ee_C p s m args meth c D dA xa xt B y) (hs : ee_sc y pc (3, a, b, n) = true) (h : ee_o3 a n (pc, r) = some S') (k : ee_WS p l e R s m args below meth c Q D dA xa B ad0 y S') : ee_WS p l e R s m args below meth c Q D dA xa B ad0 y (pc, r) := by
  obtain ⟨q, hq, hd, hn, hx, -⟩ := ee_sc_spec hs
  obtain ⟨he, hb, -⟩ := id hC
  unfold ee_o3 at h
  split at h
  · rename_i pc' lo w st r' heq
    cases heq
    split at h
    · rename_i lo' hu
      cases h
      intro ad ws H locs ls vs hp hwd hP hD hS hl hv
      match vs, hv with
      | v :: vs, ⟨⟨x, hx1, hx2⟩, hv⟩ =>
        subst hx1
        obtain ⟨hi, lv, hlv, hset⟩ := ee_lo_set hl hu (v := .int x) ⟨x, rfl, hx2⟩
        rcases ee_two hq with ⟨-, rfl⟩ | ⟨hb0, rfl⟩
        · cases hn
          exact lv_istore he hb hd hlv hi rfl (fun ls' h' => k ad ws H locs ls' vs hp hwd hP hD hS (hset ls' h') hv)
        · cases hn
          exact lv_istore_n he hb hd (ee_fin4 hx hb0) hlv hi rfl (fun ls' h' => k ad ws H locs ls' vs hp hwd hP hD hS (hset ls' h') hv)
    · cases h
  · cases h
theorem es_o4 (hC : ee_C p s m args meth c D dA xa xt B y) (hs : ee_sc y pc (4, a, b, n) = true) (h : ee_o4 a n (pc, r) = some S') (k : ee_WS p l e R s m args below meth c Q D dA xa B ad0 y S') : ee_WS p l e R s m args below meth c Q D dA xa B ad0 y (pc, r) := by
  obtain ⟨q, hq, hd, hn, hx, -⟩ := ee_sc_spec hs
  obtain ⟨he, hb, -⟩ := id hC
  unfold ee_o4 at h
  split at h
  · rename_i pc' lo w st r' heq
    cases heq
    cases hr : ee_isr w with
    | false => rw [ee_cf hr] at h; cases h
    | true =>
      rw [ee_ct hr] at h
      split at h
      · rename_i lo' hu
        cases h
        intro ad ws H locs ls vs hp hwd hP hD hS hl hv
        match vs, hv with
        | v :: vs, ⟨hok, hv⟩ =>
          obtain ⟨hi, lv, hlv, hset⟩ := ee_lo_set hl hu hok
          rcases ee_two hq with ⟨-, rfl⟩ | ⟨hb0, rfl⟩
          · cases hn
            rcases ee_ok_ref hr hok with rfl | ⟨x, rfl⟩
            · exact lv_astoreN he hb hd hlv hi rfl (fun ls' h' => k ad ws H locs ls' vs hp hwd hP hD hS (hset ls' h') hv)
            · exact lv_astore he hb hd hlv hi rfl (fun ls' h' => k ad ws H locs ls' vs hp hwd hP hD hS (hset ls' h') hv)
          · cases hn
            rcases ee_ok_ref hr hok with rfl | ⟨x, rfl⟩
            · exact lv_astore_nN he hb hd (ee_fin4 hx hb0) hlv hi rfl (fun ls' h' => k ad ws H locs ls' vs hp hwd hP hD hS (hset ls' h') hv)
            · exact lv_astore_n he hb hd (ee_fin4 hx hb0) hlv hi rfl (fun ls' h' => k ad ws H locs ls' vs hp hwd hP hD hS (hset ls' h') hv)
      · cases h
  · cases h
theorem es_o5 (hC : ee_C p s m args meth c D dA xa xt B y) (hs : ee_sc y pc (5, a, b, n) = true) (h : ee_push (.inl (a, a)) n (pc, r) = some S') (k : ee_WS p l e R s m args below meth c Q D dA xa B ad0 y S') : ee_WS p l e R s m args below meth c Q D dA xa B ad0 y (pc, r) := by
  obtain ⟨lo, st, r⟩ := r
  obtain ⟨q, hq, hd, hn, hx, -⟩ := ee_sc_spec hs
  obtain ⟨he, hb, -⟩ := id hC
  cases h
  intro ad ws H locs ls vs hp hwd hP hD hS hl hv
  have hx' : (decide (a < 4294967296) && (if b = 0 then true else if b = 1 then decide ((Int8.ofInt ((a : Int) - 2147483648)).toInt32 = ee_x a) else decide ((Int16.ofInt ((a : Int) - 2147483648)).toInt32 = ee_x a))) = true := hx
  rw [Bool.and_eq_true] at hx'
  have ha := of_decide_eq_true hx'.1
  have k' := k ad ws H locs ls (.int (ee_x a) :: vs) hp hwd hP hD hS hl ⟨⟨_, rfl, ee_in_x ha⟩, hv⟩
  have hq' : (if b = 0 then some (Instr.iconst ((a : Int) - 2147483648), 1) else if b = 1 then some (Instr.bipush ((a : Int) - 2147483648), 2) else some (Instr.sipush ((a : Int) - 2147483648), 3)) = some q := hq
  by_cases h0 : b = 0
  · rw [if_pos h0] at hq'
    cases hq'
    cases hn
    exact lv_iconst he hb hd rfl k'
  · have hx2 := hx'.2
    rw [if_neg h0] at hq' hx2
    by_cases h1 : b = 1
    · rw [if_pos h1] at hq' hx2
      cases hq'
      cases hn
      exact lv_bipush he hb hd (of_decide_eq_true hx2) k'
    · rw [if_neg h1] at hq' hx2
      cases hq'
      cases hn
      exact lv_sipush he hb hd (of_decide_eq_true hx2) k'
theorem es_o6 (hC : ee_C p s m args meth c D dA xa xt B y) (hs : ee_sc y pc (6, a, b, n) = true) (h : ee_push (.inl (b, b)) n (pc, r) = some S') (k : ee_WS p l e R s m args below meth c Q D dA xa B ad0 y S') : ee_WS p l e R s m args below meth c Q D dA xa B ad0 y (pc, r) := by
  obtain ⟨lo, st, r⟩ := r
  obtain ⟨q, hq, hd, hn, hx, -⟩ := ee_sc_spec hs
  obtain ⟨he, hb, hml, hown, hts, -⟩ := id hC
  cases h
  intro ad ws H locs ls vs hp hwd hP hD hS hl hv
  have hx' : (decide (b < 4294967296) && ee_rsq y a 5 b) = true := hx
  rw [Bool.and_eq_true] at hx'
  have ha := of_decide_eq_true hx'.1
  have k' := k ad ws H locs ls (.int (ee_x b) :: vs) hp hwd hP hD hS hl ⟨⟨_, rfl, ee_in_x ha⟩, hv⟩
  cases (show some (Instr.ldc a, 2) = some q from hq)
  cases hn
  exact lv_ldc he hb hown (hts _ (ee_word hx'.2 (by decide) (by decide) (by decide) rfl)) hd k'
theorem es_o54 (hC : ee_C p s m args meth c D dA xa xt B y) (hs : ee_sc y pc (54, a, b, n) = true) (h : ee_push (.inl (b, b)) n (pc, r) = some S') (k : ee_WS p l e R s m args below meth c Q D dA xa B ad0 y S') : ee_WS p l e R s m args below meth c Q D dA xa B ad0 y (pc, r) := by
  obtain ⟨lo, st, r⟩ := r
  obtain ⟨q, hq, hd, hn, hx, -⟩ := ee_sc_spec hs
  obtain ⟨he, hb, hml, hown, hts, -⟩ := id hC
  cases h
  intro ad ws H locs ls vs hp hwd hP hD hS hl hv
  have hx' : (decide (b < 4294967296) && ee_rsq y a 5 b) = true := hx
  rw [Bool.and_eq_true] at hx'
  have ha := of_decide_eq_true hx'.1
  have k' := k ad ws H locs ls (.int (ee_x b) :: vs) hp hwd hP hD hS hl ⟨⟨_, rfl, ee_in_x ha⟩, hv⟩
  cases (show some (Instr.ldc_w a, 3) = some q from hq)
  cases hn
  exact lv_ldcw he hb hown (hts _ (ee_word hx'.2 (by decide) (by decide) (by decide) rfl)) hd k'
theorem es_o7 (hC : ee_C p s m args meth c D dA xa xt B y) (hs : ee_sc y pc (7, a, b, n) = true) (h : ee_push (.inr (.inr (Nat.succ b))) n (pc, r) = some S') (k : ee_WS p l e R s m args below meth c Q D dA xa B ad0 y S') : ee_WS p l e R s m args below meth c Q D dA xa B ad0 y (pc, r) := by
  obtain ⟨lo, st, r⟩ := r
  obtain ⟨q, hq, hd, hn, hx, -⟩ := ee_sc_spec hs
  obtain ⟨he, hb, hml, hown, hts, hG, -⟩ := id hC
  cases h
  intro ad ws H locs ls vs hp hwd hP hD hS hl hv
  obtain ⟨tx, htx⟩ := ee_strw (show ee_rsq y a 6 b = true from hx)
  obtain ⟨ax, g1, g2⟩ := hG.2.2.2.1 _ htx
  have k' := k ad ws H locs ls (.ref ax :: vs) hp hwd hP hD hS hl ⟨⟨ax, g1, rfl⟩, hv⟩
  cases (show some (Instr.ldc a, 2) = some q from hq)
  cases hn
  exact va_ldcS he hb hown g2 hd k'
theorem es_o8 (hC : ee_C p s m args meth c D dA xa xt B y) (hs : ee_sc y pc (8, a, b, n) = true) (h : ee_push (.inr (.inl (nat_lit 0))) n (pc, r) = some S') (k : ee_WS p l e R s m args below meth c Q D dA xa B ad0 y S') : ee_WS p l e R s m args below meth c Q D dA xa B ad0 y (pc, r) := by
  obtain ⟨lo, st, r⟩ := r
  obtain ⟨q, hq, hd, hn, hx, -⟩ := ee_sc_spec hs
  obtain ⟨he, hb, -⟩ := id hC
  cases h
  intro ad ws H locs ls vs hp hwd hP hD hS hl hv
  have k' := k ad ws H locs ls (.null :: vs) hp hwd hP hD hS hl ⟨rfl, hv⟩
  cases (show some (Instr.aconst_null, 1) = some q from hq)
  cases hn
  exact lv_null he hb hd k'
theorem es_o9 (hC : ee_C p s m args meth c D dA xa xt B y) (hs : ee_sc y pc (9, a, b, n) = true) (h : ee_o9 a b n (pc, r) = some S') (k : ee_WS p l e R s m args below meth c Q D dA xa B ad0 y S') : ee_WS p l e R s m args below meth c Q D dA xa B ad0 y (pc, r) := by
  obtain ⟨lo, st, r⟩ := r
  obtain ⟨q, hq, hd, hn, hx, -⟩ := ee_sc_spec hs
  obtain ⟨he, hb, -⟩ := id hC
  unfold ee_o9 at h
  dsimp only at h
  split at h
  · rename_i w hw
    obtain ⟨rr, h1, h2⟩ := ee_add_in h
    try dsimp only at h1
    split at h1
    · rename_i lo' hu
      cases h1
      have hbl : b < 4294967296 := of_decide_eq_true (show decide (b < 4294967296) = true from hx)
      intro ad ws H locs ls vs hp hwd hP hD hS hl hv
      obtain ⟨hlen, lv0, hlv0, hall⟩ := id hl
      have hw' := hw
      rw [ee_nth_eq] at hw'
      rcases hall a _ hw' with hbad | ⟨v, hmem, x, rfl, hx2⟩
      · cases hbad
      · obtain ⟨kk, hkk⟩ := List.getElem?_of_mem hmem
        have hin : ee_in (x + ee_x b) rr := h2 x (ee_x b) hx2 (ee_in_x hbl)
        cases (show some (Instr.iinc a ((b : Int) - 2147483648), 3) = some q from hq)
        cases hn
        obtain ⟨g1, rfl⟩ := ee_upd_eq hu
        refine lv_iinc (v := x + ee_x b) he hb hd hlv0 hkk rfl (by have h9 : lo.length = ee_ml y := hlen; omega) rfl (fun ls' h' => k ad ws H locs ls' vs hp hwd hP hD hS ?_ hv)
        refine ⟨by rw [List.length_set]; exact hlen, _, h', fun j bb hbb => ?_⟩
        by_cases hj : j = a
        · subst hj
          rw [List.getElem?_set_self g1] at hbb
          cases hbb
          exact Or.inr ⟨_, List.mem_cons_self, ⟨_, rfl, hin⟩⟩
        · rw [List.getElem?_set_ne (fun z => hj z.symm)] at hbb
          by_cases hbu : bb = .inr (.inr 0)
          · exact Or.inl hbu
          · rcases hall j bb hbb with h | ⟨w2, h4, h5⟩
            · exact Or.inl h
            · refine Or.inr ⟨w2, List.mem_cons_of_mem _ (List.mem_filter.mpr ⟨h4, ?_⟩), h5⟩
              have hc : w2.category = 1 := ee_ok_cat (a := bb) (by
                match bb, hbu with
                | .inl _, _ => rfl
                | .inr (.inl _), _ => rfl
                | .inr (.inr 0), hbu => exact absurd rfl hbu
                | .inr (.inr (z + 1)), _ => rfl) h5
              simp [hj, hc]
    · cases h1
  · cases h
end ES
