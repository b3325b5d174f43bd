/-! ===== the steps of a store ===== -/
section SS
variable {cls : Nat → List ab_Cl} {p : Program} {l : Launch} {e : Env} {R : Room} {s : State} {m : MethodId} {args : Array Value} {below : List Frame} {meth : Method} {c : Code} {Q : State → Prop} {D : va_G} {dA : Nat → ClassId} {xa : List Nat} {xt : ee_X} {B : Nat} {rv0 : List Int} {sv0 : ab_B} {y : Nat}
variable {pc a b n : Nat} {r : List ab_A × List ab_A × ab_H × Nat × Nat} {L : List ab_S}
theorem as_29 {want op : Nat} (hop : (op = 29 ∧ want = 0) ∨ (op = 31 ∧ want = 3) ∨ (op = 33 ∧ want = 2) ∨ (op = 73 ∧ want = 1)) (hcok : ab_cok cls) (hC : ee_C p s m args meth c D dA xa xt B y) (hs : ee_sc y pc (op, a, b, n) = true) (h : ab_o29 sv0.2.2.1 want n (pc, r) = some L) (k : ∀ S ∈ L, ab_WS cls p l e R s m args below meth c Q D dA xa B rv0 sv0 y S) : ab_WS cls p l e R s m args below meth c Q D dA xa B rv0 sv0 y (pc, r) := by
  unfold ab_o29 at h
  split at h
  · rename_i pc' lo va f z st hh r' heq
    cases heq
    cases hz : Nat.beq (Nat.mod z (nat_lit 2)) (nat_lit 0) with
    | false => rw [ee_cf hz] at h; cases h
    | true =>
      rw [ee_ct hz, ee_f_eq] at h
      split at h
      · rename_i κ hκ
        split at h
        · rename_i q0 hka
          obtain ⟨t0, mn, mx⟩ := q0
          cases hc : (ab_kt t0 want && (ab_inb hh (Nat.div z (nat_lit 2)) mn f && (!Nat.beq κ (nat_lit 17) && ab_wok sv0.2.2.1 hh κ f))) with
          | false => rw [ee_cf hc] at h; cases h
          | true =>
            rw [ee_ct hc] at h
            rw [Bool.and_eq_true, Bool.and_eq_true, Bool.and_eq_true] at hc
            obtain ⟨hkt, hinb, h17, hwo⟩ := hc
            unfold ab_wok at hwo
            rw [Bool.and_eq_true] at hwo
            obtain ⟨hwk, h37⟩ := hwo
            have him : κ ≠ 17 := by
              rintro rfl
              cases (show (!Nat.beq 17 17) = true from h17)
            intro ks ws rv sv H locs ls vs hr0 hs0 hG hP hD hS hl hv
            match vs, hv with
            | vv :: vi :: vr :: vs, ⟨hokv, ⟨iv, ei, hiv⟩, hok, hvt⟩ =>
              subst ei
              obtain ⟨q, hq1, rfl⟩ := ab_nnul hz hok
              rw [ee_nth_eq] at hκ
              obtain ⟨q', e9, hq2, hk1, hk2⟩ := hG.2.2.1.2 _ κ hκ
              have hq3 : sv[z / 2]? = some q' := hq2
              rw [hq1] at hq3
              cases hq3
              obtain ⟨a9, e8, hw8, hcell⟩ := hG.2.2.2.2.1.2 _ κ hk1
              rw [hk2] at hw8
              cases hw8
              obtain ⟨kk, ax⟩ := q
              dsimp only at *
              have hko : ∀ zz, e9 = .inl zz → ab_ko κ = none := by
                rintro zz rfl
                cases hk0 : ab_ko κ with
                | none => rfl
                | some w9 =>
                  obtain ⟨vs9, x1, -⟩ := hcell.1 w9.1 w9.2 hk0
                  cases x1
              rcases hcell.2.1 _ _ _ hka with ⟨ht, nn, ff, rfl, h5, h6, h7⟩ | ⟨rfl, nn, ff, rfl, h5, h6⟩ | ⟨h3, h36, nn, gg, rfl, h5, h6, h7⟩
              · obtain ⟨x1, x2⟩ := ab_inb_snd hG hinb hiv hq1 hk2 h5
                obtain ⟨v1, v2⟩ := ab_vin x1 x2
                have hko := hko _ rfl
                have ex : ab_ev rv f = some ((iv.toInt.toNat : Nat) : Int) := by rw [hiv, Int.toNat_of_nonneg x1]
                have hw1 : want ≠ 1 := by
                  rintro rfl
                  have e0 : t0 = 1 := Nat.eq_of_beq_eq_true (show Nat.beq t0 1 = true from hkt)
                  omega
                have hw3 : want ≠ 3 := by
                  rintro rfl
                  have e0 : (Nat.ble 3 t0 && Nat.ble t0 6) = true := hkt
                  rw [Bool.and_eq_true] at e0
                  have := Nat.le_of_ble_eq_true e0.1
                  omega
                rw [ee_cf (show Nat.beq want (nat_lit 1) = false from ee_bn hw1)] at h
                cases hc : (ab_ws hh want t0 va && ab_wt hh κ f va) with
                | false => rw [ee_cf hc] at h; cases h
                | true =>
                  rw [ee_ct hc] at h
                  cases h
                  rw [Bool.and_eq_true] at hc
                  have hfit := ab_fits_snd hG hokv (ab_wt_snd hG.1 hc.2 hiv x1)
                  have hint : ∃ (xv : Int32), vv = .int xv ∧ (want = 2 → xv = 0 ∨ xv = 1) := by
                    match va, hokv, hc.1 with
                    | .inl g9, ⟨xv, e7, hxv⟩, hc1 =>
                      refine ⟨xv, e7, ?_⟩
                      rintro rfl
                      have hc2 : (Nat.beq 2 2 && ab_jf 1 hh (.inl g9)) = true := hc1
                      rw [Bool.and_eq_true] at hc2
                      have hf' : (match ab_bd hh.1 g9 with
                        | some p => decide (0 ≤ p.1) && decide (p.2 ≤ 1)
                        | none => false) = true := hc2.2
                      split at hf'
                      · rename_i pp hpp
                        rw [Bool.and_eq_true, decide_eq_true_eq, decide_eq_true_eq] at hf'
                        have b9 := ab_bd_in hG.1 hpp hxv
                        rcases (show xv.toInt = 0 ∨ xv.toInt = 1 by omega) with h9 | h9
                        · exact Or.inl (Int32.toInt_inj.mp h9)
                        · exact Or.inr (Int32.toInt_inj.mp h9)
                      · cases hf'
                    | .inr (.inl 0), _, hc1 => exact absurd (Nat.eq_of_beq_eq_true (show Nat.beq want 3 = true from hc1)) hw3
                    | .inr (.inl (z9 + 1)), _, hc1 =>
                      have hc2 := hc1
                      unfold ab_ws at hc2
                      dsimp only at hc2
                      rw [Bool.and_eq_true] at hc2
                      exact absurd (Nat.eq_of_beq_eq_true (show Nat.beq want 3 = true from hc2.1)) hw3
                  obtain ⟨xv, rfl, hx01⟩ := hint
                  have hlt := (List.getElem?_eq_some_iff.mp hk2).1
                  have hx37 : κ = 37 → iv.toInt.toNat < 1580 ∧ ∀ t9, t9 < 4 → iv.toInt.toNat < 540 + 200 * t9 ∨ 620 + 200 * t9 ≤ iv.toInt.toNat := by
                    intro h9
                    rw [h9] at h37
                    have h80 : (ab_37 hh f && (sv0.2.2.1 99 || ab_n8 hh f)) = true := h37
                    rw [Bool.and_eq_true] at h80
                    have h8 := h80.1
                    unfold ab_37 at h8
                    split at h8
                    · rename_i q9 hq9
                      have b9 := ab_bd_in hG.1 hq9 hiv
                      simp only [Bool.and_eq_true, Bool.or_eq_true, decide_eq_true_eq] at h8
                      refine ⟨by omega, fun t9 ht9 => ?_⟩
                      rcases (show t9 = 0 ∨ t9 = 1 ∨ t9 = 2 ∨ t9 = 3 by omega) with rfl | rfl | rfl | rfl <;> omega
                    · cases h8
                  have hx8 : κ = 37 → sv0.2.2.1 99 = false → iv.toInt.toNat ≠ 8 := by
                    intro h9 h99
                    rw [h9] at h37
                    have h80 : (ab_37 hh f && (sv0.2.2.1 99 || ab_n8 hh f)) = true := h37
                    rw [Bool.and_eq_true, h99, Bool.false_or] at h80
                    have h7 := h80.2
                    unfold ab_n8 at h7
                    split at h7
                    · rename_i q9 hq9
                      have b9 := ab_bd_in hG.1 hq9 hiv
                      simp only [Bool.or_eq_true, decide_eq_true_eq] at h7
                      omega
                    · cases h7
                  have hcell2 : ab_cell dA ks (ws.map (·.1)) κ (.inl (dA t0, nn, .inl (upd ff iv.toInt.toNat xv))) := by
                    refine ⟨fun ci ts h9 => (by rw [hko] at h9; cases h9), fun t9 lo9 hi9 h9 => ?_, fun h9 => absurd h9 him, fun h9 => ⟨_, nn, _, rfl, fun t9 ht9 l9 hl9 => ?_⟩⟩
                    rotate_left
                    · obtain ⟨cA9, n9, f9, e9, g9⟩ := hcell.2.2.2 h9
                      cases e9
                      have g8 := g9 t9 ht9 l9 hl9
                      have hb := hx37 h9
                      have hne : ∀ j, 540 + 200 * t9 ≤ j → j < 620 + 200 * t9 → upd ff iv.toInt.toNat xv j = ff j := fun j j1 j2 => if_neg (fun z9 => by
                        have hb2 := hb.2 t9 ht9
                        omega)
                      unfold ab_row7 at g8 ⊢
                      rw [hne (540 + 200 * t9 + 4 * l9) (by omega) (by omega), hne (540 + 200 * t9 + 4 * l9 + 1) (by omega) (by omega), hne (540 + 200 * t9 + 4 * l9 + 2) (by omega) (by omega), hne (540 + 200 * t9 + 4 * l9 + 3) (by omega) (by omega)]
                      exact g8
                    rw [hka] at h9
                    cases h9
                    refine Or.inl ⟨ht, nn, _, rfl, h5, h6, fun j hj => ?_⟩
                    by_cases hji : j = iv.toInt.toNat
                    · subst hji
                      rw [show upd ff iv.toInt.toNat xv iv.toInt.toNat = xv from if_pos rfl]
                      exact hfit
                    · rw [show upd ff iv.toInt.toNat xv j = ff j from if_neg hji]
                      exact h7 j hj
                  have hxv9 : ∀ w, va = .inl w → ab_ev rv w = some xv.toInt := by
                    rintro w rfl
                    obtain ⟨x9, e9, h9⟩ := hokv
                    cases e9
                    exact h9
                  have hG2 := ab_G_st (i := z / 2) (va := va) (xv := xv) hG hcok hD hxv9 hq1 hk2 hk1 him ex hcell2 (by
                    intro t9 ii ht3 hne
                    match t9, ht3, hne with
                    | 0, _, _ => rfl
                    | 1, _, hne =>
                      show (if 0 ≤ ii ∧ ii < (nn : Int) then some (Value.int (upd ff iv.toInt.toNat xv ii.toNat)) else none) = (if 0 ≤ ii ∧ ii < (nn : Int) then some (Value.int (ff ii.toNat)) else none)
                      by_cases hin : 0 ≤ ii ∧ ii < (nn : Int)
                      · rw [if_pos hin, if_pos hin, show upd ff iv.toInt.toNat xv ii.toNat = ff ii.toNat from if_neg (fun z9 => hne rfl (by omega))]
                      · rw [if_neg hin, if_neg hin]
                    | 2, _, _ => rfl
                    | t9 + 3, ht3, _ => omega) (fun t9 ii ii' h3 hqk hp => ab_Pq_upd (fun xo hxo => by
                    have h9 : (if 0 ≤ ((iv.toInt.toNat : Nat) : Int) ∧ ((iv.toInt.toNat : Nat) : Int) < (nn : Int) then some (Value.int (ff ((iv.toInt.toNat : Nat) : Int).toNat)) else none) = some (.int xo) := hxo
                    rw [if_pos ⟨by omega, by omega⟩, Int.toNat_natCast] at h9
                    cases h9
                    rfl) hp hqk) (by
                    rintro ⟨t1, t2, t3, t4⟩ h1 hne
                    rcases h1 with h1 | ⟨h1, h4⟩
                    · have h1' : t1 = 1 := h1
                      subst h1'
                      show (if t2 < nn then some (upd ff iv.toInt.toNat xv t2).toInt else none) = (if t2 < nn then some (ff t2).toInt else none)
                      rw [show upd ff iv.toInt.toNat xv t2 = ff t2 from if_neg hne]
                    · have h1' : t1 = 4 := h1
                      subst h1'
                      have hb := (hx37 h4).2
                      show (if (t2 < nn ∧ 1580 ≤ nn ∧ t3 < 4) ∧ 0 ≤ (upd ff iv.toInt.toNat xv t2).toInt ∧ (upd ff iv.toInt.toNat xv t2).toInt ≤ 19 then some (upd ff iv.toInt.toNat xv (540 + 200 * t3 + 4 * (upd ff iv.toInt.toNat xv t2).toInt.toNat)).toInt else none) = (if (t2 < nn ∧ 1580 ≤ nn ∧ t3 < 4) ∧ 0 ≤ (ff t2).toInt ∧ (ff t2).toInt ≤ 19 then some (ff (540 + 200 * t3 + 4 * (ff t2).toInt.toNat)).toInt else none)
                      rw [show upd ff iv.toInt.toNat xv t2 = ff t2 from if_neg hne]
                      by_cases hin : (t2 < nn ∧ 1580 ≤ nn ∧ t3 < 4) ∧ 0 ≤ (ff t2).toInt ∧ (ff t2).toInt ≤ 19
                      · rw [if_pos hin, if_pos hin, show upd ff iv.toInt.toNat xv (540 + 200 * t3 + 4 * (ff t2).toInt.toNat) = ff (540 + 200 * t3 + 4 * (ff t2).toInt.toNat) from if_neg (fun z9 => by
                          have hb2 := hb t3 hin.1.2.2
                          have hin2 := hin.2
                          omega)]
                      · rw [if_neg hin, if_neg hin]) [(z / 2, (1, f), va)] (by
                    intro g9 hg9
                    rcases List.mem_cons.mp hg9 with rfl | hg9
                    · refine ⟨(kk, ax), _, iv.toInt, .int xv, hq1, by rw [List.getElem?_set_self hlt], hiv, ?_, hokv⟩
                      show (if 0 ≤ iv.toInt ∧ iv.toInt < (nn : Int) then some (Value.int (upd ff iv.toInt.toNat xv iv.toInt.toNat)) else none) = _
                      rw [if_pos ⟨x1, x2⟩, show upd ff iv.toInt.toNat xv iv.toInt.toNat = xv from if_pos rfl]
                    · cases hg9)
                  rcases hop with ⟨rfl, rfl⟩ | ⟨rfl, rfl⟩ | ⟨rfl, rfl⟩ | ⟨rfl, rfl⟩
                  · have e0 : t0 = 0 := Nat.eq_of_beq_eq_true (show Nat.beq t0 0 = true from hkt)
                    subst e0
                    refine sm_29 hC hs hP hD hS hk2 v1 (fun H1 locs1 hP1 hD1 hS1 => ?_)
                    rw [v2] at hP1 hD1
                    rw [← ab_ph_st (ke := sv0.2.2.2.1) (ks := ks) (c2 := .inl (upd ff iv.toInt.toNat xv)) hk2]
                    exact k _ List.mem_cons_self ks _ rv sv H1 locs1 ls vs hr0 (ab_px_set hs0 hk2 hk1 hwk (ab_sm_in (fun h9 i9 h8 => if_neg (fun z9 => h8.elim (fun h8 => by have := (hx37 h9).1; have := h8.1; omega) (fun h8 => hx8 h9 h8.2 (by have := h8.1; omega))))) (ab_ph_st hk2)) hG2 hP1 hD1 hS1 hl hvt
                  · exact absurd rfl hw3
                  · have e0 : t0 = 2 := Nat.eq_of_beq_eq_true (show Nat.beq t0 2 = true from hkt)
                    subst e0
                    refine sm_33 hC hs hP hD hS (hx01 rfl) hk2 v1 (fun H1 locs1 hP1 hD1 hS1 => ?_)
                    rw [v2] at hP1 hD1
                    rw [← ab_ph_st (ke := sv0.2.2.2.1) (ks := ks) (c2 := .inl (upd ff iv.toInt.toNat xv)) hk2]
                    exact k _ List.mem_cons_self ks _ rv sv H1 locs1 ls vs hr0 (ab_px_set hs0 hk2 hk1 hwk (ab_sm_in (fun h9 i9 h8 => if_neg (fun z9 => h8.elim (fun h8 => by have := (hx37 h9).1; have := h8.1; omega) (fun h8 => hx8 h9 h8.2 (by have := h8.1; omega))))) (ab_ph_st hk2)) hG2 hP1 hD1 hS1 hl hvt
                  · exact absurd rfl hw1
              · obtain ⟨x1, x2⟩ := ab_inb_snd hG hinb hiv hq1 hk2 h5
                obtain ⟨v1, v2⟩ := ab_vin x1 x2
                have hko := hko _ rfl
                have hn37 : κ ≠ 37 := by
                  rintro rfl
                  cases hka
                have ex : ab_ev rv f = some ((iv.toInt.toNat : Nat) : Int) := by rw [hiv, Int.toNat_of_nonneg x1]
                rcases hop with ⟨rfl, rfl⟩ | ⟨rfl, rfl⟩ | ⟨rfl, rfl⟩ | ⟨rfl, rfl⟩
                · cases (show Nat.beq 1 0 = true from hkt)
                · cases (show (Nat.ble 3 1 && Nat.ble 1 6) = true from hkt)
                · cases (show Nat.beq 1 2 = true from hkt)
                · rw [ee_ct (show Nat.beq 1 (nat_lit 1) = true from rfl)] at h
                  cases hil : ab_isl va with
                  | false => rw [ee_cf hil] at h; cases h
                  | true =>
                    rw [ee_ct hil] at h
                    cases h
                    match va, hil, hokv with
                    | .inr (.inr 1), _, ⟨xl, exl⟩ =>
                      subst exl
                      have hcell2 : ab_cell dA ks (ws.map (·.1)) κ (.inl (dA 1, nn, .inr (.inl (vp_updL ff iv.toInt.toNat xl)))) := by
                        refine ⟨fun ci ts h9 => (by rw [hko] at h9; cases h9), fun t9 lo9 hi9 h9 => ?_, ab_c3_no him hn37⟩
                        rw [hka] at h9
                        cases h9
                        exact Or.inr (Or.inl ⟨rfl, nn, _, rfl, h5, h6⟩)
                      have hG2 := ab_G_st (i := z / 2) (va := .inr (.inr 1)) (xv := 0) hG hcok hD (fun w h9 => by cases h9) hq1 hk2 hk1 him ex hcell2 (by
                        intro t9 ii ht3 hne
                        match t9, ht3, hne with
                        | 0, _, _ => rfl
                        | 1, _, hne => rfl
                        | 2, _, _ => rfl
                        | t9 + 3, ht3, _ => omega) (fun t9 ii ii' h3 hqk hp => by
                        obtain ⟨cA9, n9, f9, e9, -⟩ := hp
                        cases e9) (by
                        rintro ⟨t1, t2, t3, t4⟩ h1 hne
                        rcases h1 with h1 | ⟨-, h4⟩
                        · have h1' : t1 = 1 := h1
                          subst h1'
                          rfl
                        · exact absurd h4 hn37) [] (by intro g9 hg9; cases hg9)
                      refine sm_73 hC hs hP hD hS hk2 v1 (fun H1 locs1 hP1 hD1 hS1 => ?_)
                      rw [v2] at hP1 hD1
                      rw [← ab_ph_st (ke := sv0.2.2.2.1) (ks := ks) (c2 := .inr (.inl (vp_updL ff iv.toInt.toNat xl))) hk2]
                      exact k _ List.mem_cons_self ks _ rv sv H1 locs1 ls vs hr0 (ab_px_set hs0 hk2 hk1 hwk (ab_sm_no hn37) (ab_ph_st hk2)) hG2 hP1 hD1 hS1 hl hvt
              · obtain ⟨x1, x2⟩ := ab_inb_snd hG hinb hiv hq1 hk2 h5
                obtain ⟨v1, v2⟩ := ab_vin x1 x2
                have hko := hko _ rfl
                have hn37 : κ ≠ 37 := by
                  rintro rfl
                  have h9 : (0 : Nat) = t0 := congrArg Prod.fst (Option.some.inj hka)
                  omega
                have ex : ab_ev rv f = some ((iv.toInt.toNat : Nat) : Int) := by rw [hiv, Int.toNat_of_nonneg x1]
                rcases hop with ⟨rfl, rfl⟩ | ⟨rfl, rfl⟩ | ⟨rfl, rfl⟩ | ⟨rfl, rfl⟩
                · have e0 : t0 = 0 := Nat.eq_of_beq_eq_true (show Nat.beq t0 0 = true from hkt)
                  omega
                · rw [ee_cf (show Nat.beq 3 (nat_lit 1) = false from rfl)] at h
                  cases hc : (ab_ws hh 3 t0 va && ab_wt hh κ f va) with
                  | false => rw [ee_cf hc] at h; cases h
                  | true =>
                    rw [ee_ct hc] at h
                    cases h
                    rw [Bool.and_eq_true] at hc
                    have hfit := ab_fits_snd hG hokv (ab_wt_snd hG.1 hc.2 hiv x1)
                    have href : ∃ z9 : Option Nat, vv = va_rf z9 ∧ ∀ a2, z9 = some a2 → ∃ (k2 : Nat) (vs2 : List Value), ws[k2]? = some (a2, .inr (ee_ec t0, vs2)) := by
                      match va, hokv, hc.1 with
                      | .inl g9, _, hc1 => cases (show (Nat.beq 3 2 && ab_jf 1 hh (.inl g9)) = true from hc1)
                      | .inr (.inl 0), hokv, hc1 => exact ⟨none, hokv, fun a2 h9 => by cases h9⟩
                      | .inr (.inl (z9 + 1)), hokv, hc1 =>
                        have hc2 := hc1
                        unfold ab_ws at hc2
                        dsimp only at hc2
                        rw [Bool.and_eq_true, Bool.and_eq_true] at hc2
                        obtain ⟨q8, q81, q82⟩ := ab_nnul hc2.2.1 hokv
                        have hc3 := hc2.2.2
                        split at hc3
                        · rename_i κ8 hκ8
                          split at hc3
                          · rename_i w8 hko8
                            have e8 : w8.1 = ee_ec t0 := Nat.eq_of_beq_eq_true hc3
                            rw [ee_nth_eq] at hκ8
                            obtain ⟨q7, e7, y1, y2, y3⟩ := hG.2.2.1.2 _ κ8 hκ8
                            have y1' : sv[z9 / 2]? = some q7 := y1
                            rw [q81] at y1'
                            cases y1'
                            obtain ⟨a6, e6, u1, u2⟩ := hG.2.2.2.2.1.2 _ κ8 y2
                            rw [y3] at u1
                            cases u1
                            obtain ⟨vs6, u3, -⟩ := u2.1 w8.1 w8.2 hko8
                            refine ⟨some q8.2, q82, fun a2 h9 => ?_⟩
                            cases h9
                            rw [u3, e8] at y3
                            exact ⟨q8.1, vs6, y3⟩
                          · cases hc3
                        · cases hc3
                    obtain ⟨zv, rfl, hzv⟩ := href
                    have hlt := (List.getElem?_eq_some_iff.mp hk2).1
                    have hcell2 : ab_cell dA ks (ws.map (·.1)) κ (.inl (dA t0, nn, .inr (.inr (.inr (.inr (va_up gg iv.toInt.toNat zv)))))) := by
                      refine ⟨fun ci ts h9 => (by rw [hko] at h9; cases h9), fun t9 lo9 hi9 h9 => ?_, ab_c3_no him hn37⟩
                      rw [hka] at h9
                      cases h9
                      refine Or.inr (Or.inr ⟨h3, h36, nn, _, rfl, h5, h6, fun j hj => ?_⟩)
                      by_cases hji : j = iv.toInt.toNat
                      · subst hji
                        rw [va_up_self]
                        exact hfit
                      · rw [va_up_ne _ _ hji]
                        exact h7 j hj
                    have hxv9 : ∀ w, va = .inl w → ab_ev rv w = some (0 : Int32).toInt := by
                      rintro w rfl
                      cases (show (Nat.beq 3 2 && ab_jf 1 hh (.inl w)) = true from hc.1)
                    have hG2 := ab_G_st (i := z / 2) (va := va) (xv := 0) hG hcok hD hxv9 hq1 hk2 hk1 him ex hcell2 (by
                      intro t9 ii ht3 hne
                      match t9, ht3, hne with
                      | 0, _, _ => rfl
                      | 1, _, hne =>
                        show (if 0 ≤ ii ∧ ii < (nn : Int) then some (va_rf (va_up gg iv.toInt.toNat zv ii.toNat)) else none) = (if 0 ≤ ii ∧ ii < (nn : Int) then some (va_rf (gg ii.toNat)) else none)
                        by_cases hin : 0 ≤ ii ∧ ii < (nn : Int)
                        · rw [if_pos hin, if_pos hin, va_up_ne _ _ (fun z9 => hne rfl (by omega))]
                        · rw [if_neg hin, if_neg hin]
                      | 2, _, _ => rfl
                      | t9 + 3, ht3, _ => omega) (fun t9 ii ii' h3 hqk hp => by
                      obtain ⟨cA9, n9, f9, e9, -⟩ := hp
                      cases e9) (by
                      rintro ⟨t1, t2, t3, t4⟩ h1 hne
                      rcases h1 with h1 | ⟨-, h4⟩
                      · have h1' : t1 = 1 := h1
                        subst h1'
                        rfl
                      · exact absurd h4 hn37) [(z / 2, (1, f), va)] (by
                      intro g9 hg9
                      rcases List.mem_cons.mp hg9 with rfl | hg9
                      · refine ⟨(kk, ax), _, iv.toInt, va_rf zv, hq1, by rw [List.getElem?_set_self hlt], hiv, ?_, hokv⟩
                        show (if 0 ≤ iv.toInt ∧ iv.toInt < (nn : Int) then some (va_rf (va_up gg iv.toInt.toNat zv iv.toInt.toNat)) else none) = _
                        rw [if_pos ⟨x1, x2⟩, va_up_self]
                      · cases hg9)
                    refine sm_31 hC hs hP hD hS ⟨h3, h36⟩ hk2 v1 rfl hzv (fun H1 locs1 hP1 hD1 hS1 => ?_)
                    rw [v2] at hP1 hD1
                    rw [← ab_ph_st (ke := sv0.2.2.2.1) (ks := ks) (c2 := .inr (.inr (.inr (.inr (va_up gg iv.toInt.toNat zv))))) hk2]
                    exact k _ List.mem_cons_self ks _ rv sv H1 locs1 ls vs hr0 (ab_px_set hs0 hk2 hk1 hwk (ab_sm_no hn37) (ab_ph_st hk2)) hG2 hP1 hD1 hS1 hl hvt
                · have e0 : t0 = 2 := Nat.eq_of_beq_eq_true (show Nat.beq t0 2 = true from hkt)
                  omega
                · have e0 : t0 = 1 := Nat.eq_of_beq_eq_true (show Nat.beq t0 1 = true from hkt)
                  omega
        · cases h
      · cases h
  · cases h
end SS
