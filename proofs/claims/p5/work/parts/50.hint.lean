/-! ===== hints by places ===== -/
/-- a field, an element, a length is read, so that there is a fact of it -/
def ab_hto (i : Nat) (key : ab_Key) : ab_S → Option (List ab_S)
  | (pc, lo, st, h, r) => match ab_ff h.2.2.2.1 i key with
    | some _ => none
    | none => match ee_nth h.2.2.1 i with
      | some κ => bif Nat.beq key.1 (nat_lit 0) then (match ab_ko κ with
          | some q => (match ee_nth q.2 key.2.1 with
            | some t => ab_val t h fun h' a => [(pc, lo, st, ab_adf h' (i, key, a), r)]
            | none => none)
          | none => none)
        else bif Nat.beq key.1 (nat_lit 2) then (match ab_ka κ with
          | some q => bif decide (q.2.2 < 2147483648) then ab_val (.inl q.2) h (fun h' a => [(pc, lo, st, ab_adf h' (i, key, a), r)]) else none
          | none => none)
        else bif Nat.beq key.1 (nat_lit 1) then (match ab_ka κ with
          | some q => bif !Nat.beq q.1 (nat_lit 1) && (ab_inb h i q.2.1 key.2 && decide (q.2.2 < 2147483648)) then (match ab_et κ h key.2 with
            | some t => ab_val t h fun h' a => [(pc, lo, st, ab_adf h' (i, key, a), r)]
            | none => none) else none
          | none => none)
        else none
      | none => none
section HT
variable {cls : Nat → List ab_Cl} {p : Program} {l : Launch} {e : Env} {R : Room} {s : State} {m : MethodId} {args : Array Value} {below : List Frame} {meth : Method} {c : Code} {Q : State → Prop} {D : va_G} {dA : Nat → ClassId} {xa : List Nat} {xt : ee_X} {B : Nat} {rv0 : List Int} {sv0 : ab_B} {y : Nat}
theorem ab_hto_snd {i : Nat} {key : ab_Key} {S : ab_S} {L : List ab_S} (h : ab_hto i key S = some L) (k : ∀ S ∈ L, ab_WS cls p l e R s m args below meth c Q D dA xa B rv0 sv0 y S) : ab_WS cls p l e R s m args below meth c Q D dA xa B rv0 sv0 y S := by
  obtain ⟨pc, lo, st, hh, r⟩ := S
  unfold ab_hto at h
  dsimp only at h
  split at h
  · cases h
  · split at h
    · rename_i κ hκ
      intro ks ws rv sv H locs ls vs hr0 hs0 hG hP hD hS hl hv
      rw [ee_nth_eq] at hκ
      obtain ⟨q, e9, hq1, hk1, hk2⟩ := hG.2.2.1.2 _ κ hκ
      obtain ⟨a9, e8, hw8, hcell⟩ := hG.2.2.2.2.1.2 _ κ hk1
      rw [hk2] at hw8
      cases hw8
      obtain ⟨t9, f9⟩ := key
      dsimp only at h
      have fin : ∀ (ii : Int) (v9 : Value) (t : ab_T), ab_ki rv (t9, f9) = some ii → ab_rd e9 t9 ii = some v9 → ab_tv ks (ws.map (·.1)) v9 t → ab_val t hh (fun h' a => [(pc, lo, st, ab_adf h' (i, (t9, f9), a), r)]) = some L → W p l e R s m args below meth c H locs (r.1 + (ab_ph sv0.2.2.2.1 ks ws / 1024 - sv0.2.2.2.2.2 / 1024)) (r.2 + (ab_ph sv0.2.2.2.1 ks ws - sv0.2.2.2.2.2)) Q (F0 m pc ls vs) := by
        intro ii v9 t h1 h2 h3 h4
        obtain ⟨rv', sv', h', a', p1, p2, hG', hok', hL⟩ := ab_val_snd hG h4 h3
        refine k _ (hL _ List.mem_cons_self) ks ws rv' sv' H locs ls vs (hr0.trans p1) (ab_px_sv hs0 p2) (ab_G_adf hG' ?_) hP hD hS (ab_lo_mono p1 p2 hl) (ab_a2_mono (fun _ _ => ab_ok_mono p1 p2) hv)
        exact ⟨q, e9, ii, v9, ab_pre p2 hq1, hk2, ab_ki_mono p1 h1, h2, hok'⟩
      cases c0 : Nat.beq t9 (nat_lit 0) with
      | true =>
        rw [ee_ct c0] at h
        have e0 : t9 = 0 := Nat.eq_of_beq_eq_true c0
        subst e0
        split at h
        · rename_i q0 hko
          split at h
          · rename_i t ht
            rw [ee_nth_eq] at ht
            obtain ⟨fvs, rfl, hlen, hty⟩ := hcell.1 _ _ hko
            obtain ⟨v9, hv9, htv⟩ := hty _ t ht
            exact fin (f9.1 : Int) v9 t rfl (by show fvs[((f9.1 : Nat) : Int).toNat]? = _; rw [Int.toNat_natCast]; exact hv9) htv h
          · cases h
        · cases h
      | false =>
      rw [ee_cf c0] at h
      cases c2 : Nat.beq t9 (nat_lit 2) with
      | true =>
        rw [ee_ct c2] at h
        have e0 : t9 = 2 := Nat.eq_of_beq_eq_true c2
        subst e0
        split at h
        · rename_i q0 hka
          obtain ⟨t0, mn, mx⟩ := q0
          cases hc : decide (mx < 2147483648) with
          | false => dsimp only at h; rw [ee_cf hc] at h; cases h
          | true =>
            dsimp only at h
            rw [ee_ct hc] at h
            rw [decide_eq_true_eq] at hc
            obtain ⟨nn, xx, rfl, h5, h6⟩ : ∃ (nn : Nat) (xx : (Nat → Int32) ⊕ ((Nat → Int64) ⊕ ((Nat → UInt32) ⊕ ((Nat → UInt64) ⊕ (Nat → Option Nat))))), e9 = .inl (dA t0, nn, xx) ∧ mn ≤ (nn : Int) ∧ (nn : Int) ≤ mx := by
              rcases hcell.2.1 _ _ _ hka with ⟨ht, nn, ff, rfl, h5, h6, h7⟩ | ⟨rfl, nn, ff, rfl, h5, h6⟩ | ⟨h3, h36, nn, gg, rfl, h5, h6, h7⟩
              · exact ⟨nn, _, rfl, h5, h6⟩
              · exact ⟨nn, _, rfl, h5, h6⟩
              · exact ⟨nn, _, rfl, h5, h6⟩
            have hlt : nn < 2147483648 := by omega
            have e7 : (Int32.ofNat nn).toInt = (nn : Int) := nI_toInt (n := nn) (by omega)
            have hrd : ab_rd (.inl (dA t0, nn, xx)) 2 0 = some (Value.int (Int32.ofNat nn)) := by
              show (if nn < 2147483648 then some (Value.int (Int32.ofNat nn)) else none) = _
              rw [if_pos hlt]
            exact fin 0 _ (.inl (mn, mx)) rfl hrd ⟨_, rfl, by rw [e7]; exact h5, by rw [e7]; exact h6⟩ h
        · cases h
      | false =>
      rw [ee_cf c2] at h
      cases c1 : Nat.beq t9 (nat_lit 1) with
      | false => rw [ee_cf c1] at h; cases h
      | true =>
        rw [ee_ct c1] at h
        have e0 : t9 = 1 := Nat.eq_of_beq_eq_true c1
        subst e0
        split at h
        · rename_i q0 hka
          obtain ⟨t0, mn, mx⟩ := q0
          dsimp only at h
          cases hc : (!Nat.beq t0 (nat_lit 1) && (ab_inb hh i mn f9 && decide (mx < 2147483648))) with
          | false => rw [ee_cf hc] at h; cases h
          | true =>
            rw [ee_ct hc] at h
            rw [Bool.and_eq_true, Bool.and_eq_true, decide_eq_true_eq] at hc
            obtain ⟨hc1, hc2, hmx⟩ := hc
            have hc : (!Nat.beq t0 (nat_lit 1)) = true ∧ ab_inb hh i mn f9 = true := ⟨hc1, hc2⟩
            split at h
            · rename_i t ht
              have hev : ∃ xx : Int32, ab_ev rv f9 = some xx.toInt := by
                have hi := hc.2
                unfold ab_inb at hi
                split at hi
                · rename_i pq hpq
                  have hx0 : ∃ x, ab_ev rv f9 = some x := by
                    unfold ab_bd at hpq
                    by_cases h0 : f9.2.1 = 0
                    · exact ⟨_, ab_ev0 h0⟩
                    · rw [ee_cf (by simpa using h0)] at hpq
                      split at hpq
                      · rename_i w9 hw9
                        rw [ee_nth_eq] at hw9
                        obtain ⟨z, z1, -⟩ := hG.1.2 _ _ hw9
                        refine ⟨f9.2.1 * z + f9.2.2, ?_⟩
                        unfold ab_ev
                        rw [if_neg h0, z1]
                        rfl
                      · cases hpq
                  obtain ⟨x, hx⟩ := hx0
                  have b9 := ab_bd_in hG.1 hpq hx
                  rw [Bool.and_eq_true, Bool.or_eq_true, decide_eq_true_eq, decide_eq_true_eq] at hi
                  have hup : x < 2147483648 := by
                    rcases hi.2 with h9 | h9
                    · obtain ⟨nn, h5⟩ : ∃ nn : Nat, mn ≤ (nn : Int) ∧ (nn : Int) ≤ mx := by
                        rcases hcell.2.1 _ _ _ hka with ⟨-, nn, ff, -, h5, h6, -⟩ | ⟨-, nn, ff, -, h5, h6⟩ | ⟨-, -, nn, gg, -, h5, h6, -⟩
                        · exact ⟨nn, h5, h6⟩
                        · exact ⟨nn, h5, h6⟩
                        · exact ⟨nn, h5, h6⟩
                      omega
                    · split at h9
                      · rename_i g9 hg9
                        split at h9
                        · rename_i d hd
                          obtain ⟨qf, ef, ii, vf, -, -, -, -, xg, -, hxg⟩ := hG.2.2.2.1 _ (ab_ff_in hg9)
                          have d9 := ab_dl_in hG.1 hG.2.1 hxg hx hd
                          rw [decide_eq_true_eq] at h9
                          have := (ab_i32 xg).2
                          omega
                        · cases h9
                      · cases h9
                  refine ⟨Int32.ofInt x, ?_⟩
                  rw [hx, Int32.toInt_ofInt, ab_bm (by omega) (by omega)]
                · cases hi
              obtain ⟨iv, hiv⟩ := hev
              rcases hcell.2.1 _ _ _ hka with ⟨ht9, nn, ff, rfl, h5, h6, h7⟩ | ⟨rfl, nn, ff, rfl, h5, h6⟩ | ⟨h3, h36, nn, gg, rfl, h5, h6, h7⟩
              · obtain ⟨x1, x2⟩ := ab_inb_snd hG hc.2 hiv hq1 hk2 h5
                exact fin iv.toInt _ t hiv (if_pos ⟨x1, x2⟩) (ab_et_snd hG.1 ht hiv x1 (h7 iv.toInt.toNat (by omega))) h
              · cases hc.1
              · obtain ⟨x1, x2⟩ := ab_inb_snd hG hc.2 hiv hq1 hk2 h5
                exact fin iv.toInt _ t hiv (if_pos ⟨x1, x2⟩) (ab_et_snd hG.1 ht hiv x1 (h7 iv.toInt.toNat (by omega))) h
            · cases h
        · cases h
    · cases h
end HT
/-- a row of lines: what its numbers may be -/
def ab_st1 (h : ab_H) (o : Option ab_L) (lo hi : Int) (k : ab_H → List ab_S) : List ab_S := match o with
  | some f => ab_set h f lo hi k []
  | none => k h
def ab_rwk (g : ab_L) (c : Int) : ab_Key := (nat_lit 1, g.1, 4 * g.2.1, 4 * g.2.2 + c)
def ab_hrw (i : Nat) (g : ab_L) : ab_S → Option (List ab_S)
  | (pc, lo, st, h, r) => bif (match ee_nth h.2.2.1 i with
      | some κ => Nat.beq κ (nat_lit 17)
      | none => false) && ab_nn0 h 2147483647 g then
    some (ab_st1 h (ab_rfi (ab_ff h.2.2.2.1 i (ab_rwk g 1))) 0 (match ab_rfi (ab_ff h.2.2.2.1 i (ab_rwk g 0)) with
        | some v => (match ab_bd h.1 v with
          | some q => bif decide (q.2 ≤ 5) then 3 else 20
          | none => 20)
        | none => 20) fun h1 => ab_st1 h1 (ab_rfi (ab_ff h.2.2.2.1 i (ab_rwk g 2))) 0 3 fun h2 => ab_st1 h2 (ab_rfi (ab_ff h.2.2.2.1 i (ab_rwk g 3))) 0 3 fun h3 => ab_st1 h3 (match ab_rfi (ab_ff h.2.2.2.1 i (ab_rwk g 1)) with
        | some _ => some g
        | none => none) 0 19 fun h4 => [(pc, lo, st, h4, r)]) else none
/-- the length of lines is four times a number -/
def ab_hl4 (i : Nat) : ab_S → Option (List ab_S)
  | (pc, lo, st, h, r) => match ab_ff h.2.2.2.1 i (nat_lit 2, nat_lit 0, 0, 0) with
    | some _ => none
    | none => bif (match ee_nth h.2.2.1 i with
      | some κ => Nat.beq κ (nat_lit 17)
      | none => false) then ab_fr h 0 20 (fun h' f => some [(pc, lo, st, ab_adf h' (i, (nat_lit 2, nat_lit 0, 0, 0), .inl (f.1, 4, 0)), r)]) else none
section HR
variable {cls : Nat → List ab_Cl} {p : Program} {l : Launch} {e : Env} {R : Room} {s : State} {m : MethodId} {args : Array Value} {below : List Frame} {meth : Method} {c : Code} {Q : State → Prop} {D : va_G} {dA : Nat → ClassId} {xa : List Nat} {xt : ee_X} {B : Nat} {rv0 : List Int} {sv0 : ab_B} {y : Nat}
theorem ab_17 {ks : List Nat} {ws : va_W} {rv : List Int} {sv : List (Nat × Nat)} {h : ab_H} (hG : ab_G cls dA xa ks ws rv sv h) {i : Nat} (h17 : (match ee_nth h.2.2.1 i with
      | some κ => Nat.beq κ (nat_lit 17)
      | none => false) = true) : ∃ (q : Nat × Nat) (cA : ClassId) (n : Nat) (f : Nat → Int32), sv[i]? = some q ∧ ws[q.1]? = some (q.2, .inl (cA, n, .inl f)) ∧ n % 4 = 0 ∧ n ≤ 80 ∧ ∀ l, 4 * l + 3 < n → ab_row6 f l := by
  split at h17
  · rename_i κ hκ
    have e9 : κ = 17 := Nat.eq_of_beq_eq_true h17
    subst e9
    rw [ee_nth_eq] at hκ
    obtain ⟨q, e8, w1, w2, w3⟩ := hG.2.2.1.2 _ _ hκ
    obtain ⟨a9, e7, u1, u2⟩ := hG.2.2.2.2.1.2 _ 17 w2
    rw [w3] at u1
    cases u1
    obtain ⟨cA, n, f, rfl, h4, h5, h6⟩ := u2.2.2.1 rfl
    exact ⟨q, cA, n, f, w1, w3, h4, h5, h6⟩
  · cases h17
theorem ab_st1_snd {ks : List Nat} {ws : va_W} {rv : List Int} {sv : List (Nat × Nat)} {h : ab_H} (hG : ab_G cls dA xa ks ws rv sv h) {o : Option ab_L} {lo hi : Int} {k : ab_H → List ab_S} (ho : ∀ f, o = some f → ∃ x, ab_ev rv f = some x ∧ lo ≤ x ∧ x ≤ hi) : ∃ h', ab_G cls dA xa ks ws rv sv h' ∧ ab_st1 h o lo hi k = k h' := by
  cases o with
  | none => exact ⟨h, hG, rfl⟩
  | some f =>
    obtain ⟨x, x1, x2, x3⟩ := ho f rfl
    exact ab_set_snd (k := k) (imp := ([] : List ab_S)) hG x1 x2 x3
theorem ab_hrw_snd {i : Nat} {g : ab_L} {S : ab_S} {L : List ab_S} (h : ab_hrw i g S = some L) (k : ∀ S ∈ L, ab_WS cls p l e R s m args below meth c Q D dA xa B rv0 sv0 y S) : ab_WS cls p l e R s m args below meth c Q D dA xa B rv0 sv0 y S := by
  obtain ⟨pc, lo, st, hh, r⟩ := S
  unfold ab_hrw at h
  dsimp only at h
  cases hc : ((match ee_nth hh.2.2.1 i with
      | some κ => Nat.beq κ (nat_lit 17)
      | none => false) && ab_nn0 hh 2147483647 g) with
  | false => rw [ee_cf hc] at h; cases h
  | true =>
    rw [ee_ct hc] at h
    cases h
    rw [Bool.and_eq_true] at hc
    intro ks ws rv sv H locs ls vs hr0 hs0 hG hP hD hS hl hv
    obtain ⟨q, cA, n, ff, w1, w2, h4, h5, h6⟩ := ab_17 hG hc.1
    -- a fact at 4 g + c: the row is there
    have hrow : ∀ (c0 : Int) (v : ab_L), 0 ≤ c0 → c0 ≤ 3 → ab_rfi (ab_ff hh.2.2.2.1 i (ab_rwk g c0)) = some v → ∃ x : Nat, ab_ev rv g = some (x : Int) ∧ 4 * x + 3 < n ∧ ab_ev rv v = some (ff (4 * (x : Int) + c0).toNat).toInt := by
      intro c0 v h1 h2 hf
      obtain ⟨q3, cA3, n3, ff3, jj, k1, k2, k3, k4, k5, k6⟩ := ab_el_fact hG hf
      rw [w1] at k1
      have e9 : q = q3 := Option.some.inj k1
      subst e9
      rw [w2] at k2
      cases k2
      have hg := hc.2
      unfold ab_nn0 at hg
      split at hg
      · rename_i p9 hp9
        obtain ⟨x, x1, x2⟩ : ∃ x, ab_ev rv g = some x ∧ p9.1 ≤ x ∧ x ≤ p9.2 := by
          have hp9' := hp9
          unfold ab_bd at hp9'
          by_cases h0 : g.2.1 = 0
          · exact ⟨_, ab_ev0 h0, ab_bd_in hG.1 hp9 (ab_ev0 h0)⟩
          · rw [ee_cf (by simpa using h0)] at hp9'
            split at hp9'
            · rename_i w9 hw9
              rw [ee_nth_eq] at hw9
              obtain ⟨z, z1, -⟩ := hG.1.2 _ _ hw9
              have hev : ab_ev rv g = some (g.2.1 * z + g.2.2) := by
                unfold ab_ev
                rw [if_neg h0, z1]
                rfl
              exact ⟨_, hev, ab_bd_in hG.1 hp9 hev⟩
            · cases hp9'
        rw [Bool.and_eq_true, decide_eq_true_eq] at hg
        have e8 := k3
        rw [ab_ev_4 x1] at e8
        have e7 : 4 * x + c0 = jj := Option.some.inj e8
        refine ⟨x.toNat, by rw [x1, Int.toNat_of_nonneg (by omega)], by omega, ?_⟩
        rw [Int.toNat_of_nonneg (by omega), e7]
        exact k6
      · cases hg
    obtain ⟨h1, g1, e1⟩ := ab_st1_snd (k := fun h1 => ab_st1 h1 (ab_rfi (ab_ff hh.2.2.2.1 i (ab_rwk g 2))) 0 3 fun h2 => ab_st1 h2 (ab_rfi (ab_ff hh.2.2.2.1 i (ab_rwk g 3))) 0 3 fun h3 => ab_st1 h3 (match ab_rfi (ab_ff hh.2.2.2.1 i (ab_rwk g 1)) with
        | some _ => some g
        | none => none) 0 19 fun h4 => [(pc, lo, st, h4, r)]) hG (o := ab_rfi (ab_ff hh.2.2.2.1 i (ab_rwk g 1))) (lo := 0) (hi := match ab_rfi (ab_ff hh.2.2.2.1 i (ab_rwk g 0)) with
        | some v => (match ab_bd hh.1 v with
          | some q => bif decide (q.2 ≤ 5) then 3 else 20
          | none => 20)
        | none => 20) (fun v hv9 => by
      obtain ⟨x, x1, x2, x3⟩ := hrow 1 v (by omega) (by omega) hv9
      have hr6 := h6 x x2
      have e9 : (4 * (x : Int) + 1).toNat = 4 * x + 1 := by omega
      rw [e9] at x3
      refine ⟨_, x3, hr6.1.1, ?_⟩
      split
      · rename_i v0 hv0
        split
        · rename_i p9 hp9
          cases hd : decide (p9.2 ≤ 5) with
          | false => exact hr6.1.2
          | true =>
            rw [decide_eq_true_eq] at hd
            obtain ⟨x', y1, y2, y3⟩ := hrow 0 v0 (by omega) (by omega) hv0
            rw [x1] at y1
            have e8 : (x : Int) = x' := Option.some.inj y1
            have e7 : (4 * (x' : Int) + 0).toNat = 4 * x := by omega
            rw [e7] at y3
            have b9 := ab_bd_in hG.1 hp9 y3
            exact hr6.2.2.2 (by omega)
        · exact hr6.1.2
      · exact hr6.1.2)
    obtain ⟨h2, g2, e2⟩ := ab_st1_snd (k := fun h2 => ab_st1 h2 (ab_rfi (ab_ff hh.2.2.2.1 i (ab_rwk g 3))) 0 3 fun h3 => ab_st1 h3 (match ab_rfi (ab_ff hh.2.2.2.1 i (ab_rwk g 1)) with
        | some _ => some g
        | none => none) 0 19 fun h4 => [(pc, lo, st, h4, r)]) g1 (o := ab_rfi (ab_ff hh.2.2.2.1 i (ab_rwk g 2))) (lo := 0) (hi := 3) (fun v hv9 => by
      obtain ⟨x, x1, x2, x3⟩ := hrow 2 v (by omega) (by omega) hv9
      have hr6 := h6 x x2
      have e9 : (4 * (x : Int) + 2).toNat = 4 * x + 2 := by omega
      rw [e9] at x3
      exact ⟨_, x3, hr6.2.1.1, hr6.2.1.2⟩)
    obtain ⟨h3, g3, e3⟩ := ab_st1_snd (k := fun h3 => ab_st1 h3 (match ab_rfi (ab_ff hh.2.2.2.1 i (ab_rwk g 1)) with
        | some _ => some g
        | none => none) 0 19 fun h4 => [(pc, lo, st, h4, r)]) g2 (o := ab_rfi (ab_ff hh.2.2.2.1 i (ab_rwk g 3))) (lo := 0) (hi := 3) (fun v hv9 => by
      obtain ⟨x, x1, x2, x3⟩ := hrow 3 v (by omega) (by omega) hv9
      have hr6 := h6 x x2
      have e9 : (4 * (x : Int) + 3).toNat = 4 * x + 3 := by omega
      rw [e9] at x3
      exact ⟨_, x3, hr6.2.2.1.1, hr6.2.2.1.2⟩)
    obtain ⟨h4', g4, e4⟩ := ab_st1_snd (k := fun h4 => [(pc, lo, st, h4, r)]) g3 (o := match ab_rfi (ab_ff hh.2.2.2.1 i (ab_rwk g 1)) with
        | some _ => some g
        | none => none) (lo := 0) (hi := 19) (fun v hv9 => by
      cases hf1 : ab_rfi (ab_ff hh.2.2.2.1 i (ab_rwk g 1)) with
      | none => rw [hf1] at hv9; cases hv9
      | some v1 =>
        rw [hf1] at hv9
        have e9 : g = v := Option.some.inj hv9
        obtain ⟨x, x1, x2, x3⟩ := hrow 1 v1 (by omega) (by omega) hf1
        rw [← e9]
        exact ⟨_, x1, by omega, by omega⟩)
    refine k (pc, lo, st, h4', r) ?_ ks ws rv sv H locs ls vs hr0 hs0 g4 hP hD hS hl hv
    rw [e1, e2, e3, e4]
    exact List.mem_cons_self
theorem ab_hl4_snd {i : Nat} {S : ab_S} {L : List ab_S} (h : ab_hl4 i S = some L) (k : ∀ S ∈ L, ab_WS cls p l e R s m args below meth c Q D dA xa B rv0 sv0 y S) : ab_WS cls p l e R s m args below meth c Q D dA xa B rv0 sv0 y S := by
  obtain ⟨pc, lo, st, hh, r⟩ := S
  unfold ab_hl4 at h
  dsimp only at h
  split at h
  · cases h
  · cases hc : (match ee_nth hh.2.2.1 i with
      | some κ => Nat.beq κ (nat_lit 17)
      | none => false) with
    | false => rw [ee_cf hc] at h; cases h
    | true =>
      rw [ee_ct hc] at h
      intro ks ws rv sv H locs ls vs hr0 hs0 hG hP hD hS hl hv
      obtain ⟨q, cA, n, ff, w1, w2, h4, h5, h6⟩ := ab_17 hG hc
      have h9 := ab_fr_snd h
      cases h9
      obtain ⟨g1, g2⟩ := ab_G_new hG (lo := 0) (hi := 20) (z := ((n / 4 : Nat) : Int)) (by omega) (by omega)
      have p1 : rv <+: rv ++ [((n / 4 : Nat) : Int)] := List.prefix_append rv _
      refine k _ List.mem_cons_self ks ws _ sv H locs ls vs (hr0.trans p1) hs0 (ab_G_adf g1 ?_) hP hD hS (ab_lo_mono p1 (List.prefix_refl sv) hl) (ab_a2_mono (fun _ _ => ab_ok_mono p1 (List.prefix_refl sv)) hv)
      have e7 : (Int32.ofNat n).toInt = (n : Int) := nI_toInt (n := n) (by omega)
      refine ⟨q, _, 0, .int (Int32.ofNat n), w1, w2, rfl, ?_, ⟨_, rfl, ?_⟩⟩
      · show (if n < 2147483648 then some (Value.int (Int32.ofNat n)) else none) = _
        rw [if_pos (by omega)]
      · rw [e7]
        obtain ⟨z, z1, z2⟩ := ab_ev1 (f := (hh.1.length, 1, 0)) (show ¬ ((1 : Int) = 0) by decide) g2
        show ab_ev _ (hh.1.length, 4, 0) = _
        unfold ab_ev
        rw [if_neg (show ¬ ((4 : Int) = 0) by decide)]
        show Option.map (fun z => 4 * z + 0) (rv ++ [((n / 4 : Nat) : Int)])[hh.1.length]? = some (n : Int)
        rw [show (rv ++ [((n / 4 : Nat) : Int)])[hh.1.length]? = some z from z1]
        have z2' : ((n / 4 : Nat) : Int) = 1 * z + 0 := z2
        show some (4 * z + 0) = some (n : Int)
        congr 1
        omega
end HR
/-- a clause that says that an element of a row is there: the element gets a name -/
def ab_hcw (cls : Nat → List ab_Cl) (i j : Nat) : ab_S → Option (List ab_S)
  | (pc, lo, st, h, r) => match ee_nth h.2.2.1 i with
    | some κ => (match ee_nth (cls κ) j with
      | some cc => bif ((h.2.2.2.2.all fun d => ab_nop h κ cc d) && ((cc.1.all fun g => match ab_rf1 h i g.1 with
          | some f => (match ab_bd h.1 f with
            | some q => decide (g.2.1 ≤ q.1) && decide (q.2 ≤ g.2.2)
            | none => false)
          | none => false) && decide (cc.2.1.1 = 1))) && (decide (cc.2.2.1.1 = 0) && Nat.beq cc.2.1.2.1 (nat_lit 3)) then (match ab_rfn (ab_ff h.2.2.2.1 i (nat_lit 0, cc.2.1.2.2.1, 0, 0)), ab_rfi (ab_ff h.2.2.2.1 i (nat_lit 0, cc.2.1.2.2.2.1, 0, 0)) with
        | some z, some g => (match ab_ff h.2.2.2.1 z (ab_rwk g (cc.2.1.2.2.2.2 : Int)) with
          | some _ => none
          | none => ab_fr h cc.2.2.2.1 cc.2.2.2.2 (fun h' f => some [(pc, lo, st, ab_adf h' (z, ab_rwk g (cc.2.1.2.2.2.2 : Int), .inl f), r)]))
        | _, _ => none) else none
      | none => none)
    | none => none
section HW
variable {cls : Nat → List ab_Cl} {p : Program} {l : Launch} {e : Env} {R : Room} {s : State} {m : MethodId} {args : Array Value} {below : List Frame} {meth : Method} {c : Code} {Q : State → Prop} {D : va_G} {dA : Nat → ClassId} {xa : List Nat} {xt : ee_X} {B : Nat} {rv0 : List Int} {sv0 : ab_B} {y : Nat}
theorem ab_hcw_snd {i j : Nat} {S : ab_S} {L : List ab_S} (h : ab_hcw cls i j S = some L) (k : ∀ S ∈ L, ab_WS cls p l e R s m args below meth c Q D dA xa B rv0 sv0 y S) : ab_WS cls p l e R s m args below meth c Q D dA xa B rv0 sv0 y S := by
  obtain ⟨pc, lo, st, hh, r⟩ := S
  unfold ab_hcw at h
  dsimp only at h
  split at h
  · rename_i κ hκ
    split at h
    · rename_i cc hcc
      cases hz : (((hh.2.2.2.2.all fun d => ab_nop hh κ cc d) && ((cc.1.all fun g => match ab_rf1 hh i g.1 with
          | some f => (match ab_bd hh.1 f with
            | some q => decide (g.2.1 ≤ q.1) && decide (q.2 ≤ g.2.2)
            | none => false)
          | none => false) && decide (cc.2.1.1 = 1))) && (decide (cc.2.2.1.1 = 0) && Nat.beq cc.2.1.2.1 (nat_lit 3))) with
      | false => rw [ee_cf hz] at h; cases h
      | true =>
        rw [ee_ct hz] at h
        rw [Bool.and_eq_true, Bool.and_eq_true, Bool.and_eq_true, Bool.and_eq_true, decide_eq_true_eq, decide_eq_true_eq] at hz
        obtain ⟨⟨z1, z2, z3⟩, z4, z5⟩ := hz
        have z5' : cc.2.1.2.1 = 3 := Nat.eq_of_beq_eq_true z5
        split at h
        · rename_i z g hzf hgf
          split at h
          · cases h
          · intro ks ws rv sv H locs ls vs hr0 hs0 hG hP hD hS hl hv
            rw [ee_nth_eq] at hκ hcc
            obtain ⟨q, q2, ci, vs9, e2, g1, g2, g3, g4, g5⟩ := ab_fld_ref hG hzf
            obtain ⟨q8, e8, w1, w2, w3⟩ := hG.2.2.1.2 _ _ hκ
            rw [g1] at w1
            have e9 : q = q8 := Option.some.inj w1
            subst e9
            have hhd := hG.2.2.2.2.2 q.1 κ q.2 _ w2 g2 cc (List.mem_of_getElem? hcc) (ab_nop_snd hG w2 z1)
            obtain ⟨x9, y9, c1, -, c3, c4⟩ := hhd (fun g hg => by
              have h9 := List.all_eq_true.mp z2 g hg
              split at h9
              · rename_i f9 hf9
                split at h9
                · rename_i q9 hq9
                  rw [Bool.and_eq_true, decide_eq_true_eq, decide_eq_true_eq] at h9
                  obtain ⟨q7, ee7, x7, s1, s2, s3, s4⟩ := ab_rf1_snd hG hD hf9
                  rw [g1] at s1
                  cases s1
                  rw [g2] at s2
                  cases s2
                  have b9 := ab_bd_in hG.1 hq9 s4
                  exact ⟨x7, s3, by omega, by omega⟩
                · cases h9
              · cases h9)
            rw [z3, z4] at c3 c4
            have hrr : cc.2.1.2 = (3, cc.2.1.2.2.1, cc.2.1.2.2.2.1, cc.2.1.2.2.2.2) := by rw [← z5']
            rw [hrr] at c1
            generalize cc.2.1.2.2.1 = t2 at c1 g5
            generalize cc.2.1.2.2.2.1 = t3 at hgf c1
            generalize cc.2.1.2.2.2.2 = t4 at c1 h
            obtain ⟨qf, ef, ii, vf, f1, f2, f3, f4, xg, rfl, hxg⟩ := hG.2.2.2.1 _ (ab_ff_in (ab_rfi_eq hgf))
            have f1' : sv[i]? = some qf := f1
            rw [g1] at f1'
            have e7 : q = qf := Option.some.inj f1'
            subst e7
            rw [g2] at f2
            cases f2
            cases f3
            have f4' : vs9[((t3 : Nat) : Int).toNat]? = some (.int xg) := f4
            rw [Int.toNat_natCast] at f4'
            have c1' : (match ab_ar ws vs9 t2, ab_fi vs9 t3 with
              | some (_, .inl (_, n, .inl f)), some x => if 0 ≤ x ∧ 4 * x + (t4 : Int) < (n : Int) then some (f (4 * x + t4).toNat).toInt else none
              | _, _ => none) = some x9 := c1
            rw [ab_ar_at hD g4 g5, show ab_fi vs9 t3 = some xg.toInt by unfold ab_fi; rw [f4']] at c1'
            match e2, g4, c1' with
            | .inl (cA, n9, .inl ff), g4, c1' =>
              have c2' : (if 0 ≤ xg.toInt ∧ 4 * xg.toInt + (t4 : Int) < (n9 : Int) then some (ff (4 * xg.toInt + t4).toNat).toInt else none) = some x9 := c1'
              by_cases hin : 0 ≤ xg.toInt ∧ 4 * xg.toInt + (t4 : Int) < (n9 : Int)
              · rw [if_pos hin] at c2'
                have e6 := Option.some.inj c2'
                have h9 := ab_fr_snd h
                cases h9
                obtain ⟨gg1, gg2⟩ := ab_G_new hG (lo := cc.2.2.2.1) (hi := cc.2.2.2.2) (z := x9) (by omega) (by omega)
                have p1 : rv <+: rv ++ [x9] := List.prefix_append rv _
                refine k _ List.mem_cons_self ks ws _ sv H locs ls vs (hr0.trans p1) hs0 (ab_G_adf gg1 ?_) hP hD hS (ab_lo_mono p1 (List.prefix_refl sv) hl) (ab_a2_mono (fun _ _ => ab_ok_mono p1 (List.prefix_refl sv)) hv)
                refine ⟨q2, _, 4 * xg.toInt + (t4 : Int), .int (ff (4 * xg.toInt + t4).toNat), g3, g4, ?_, ?_, ⟨_, rfl, by rw [e6]; exact gg2⟩⟩
                · exact ab_ev_mono p1 (ab_ev_4 hxg)
                · show (if 0 ≤ 4 * xg.toInt + (t4 : Int) ∧ 4 * xg.toInt + (t4 : Int) < (n9 : Int) then some (Value.int (ff (4 * xg.toInt + (t4 : Int)).toNat)) else none) = _
                  rw [if_pos ⟨by omega, hin.2⟩]
              · rw [if_neg hin] at c2'
                cases c2'
            | .inl (cA, n9, .inr ff), g4, c1' => cases c1'
            | .inr z9, g4, c1' => cases c1'
        · cases h
    · cases h
  · cases h
end HW
/-- a difference by way of a third name -/
def ab_tr1 (rl : List (Nat × Nat × Int)) (a c0 : Nat) : List (Nat × Nat × Int) → Option Int
  | [] => none
  | r :: l => bif Nat.beq r.1 a then (match ab_rk rl r.2.1 c0 with
    | some k => some (r.2.2 + k)
    | none => ab_tr1 rl a c0 l) else ab_tr1 rl a c0 l
def ab_htr (a c0 : Nat) : ab_S → Option (List ab_S)
  | (pc, lo, st, h, r) => match ab_tr1 h.2.1 a c0 h.2.1 with
    | some d => ab_g d fun d => some [(pc, lo, st, (h.1, (a, c0, d) :: h.2.1, h.2.2), r)]
    | none => none
section HTR
variable {cls : Nat → List ab_Cl} {p : Program} {l : Launch} {e : Env} {R : Room} {s : State} {m : MethodId} {args : Array Value} {below : List Frame} {meth : Method} {c : Code} {Q : State → Prop} {D : va_G} {dA : Nat → ClassId} {xa : List Nat} {xt : ee_X} {B : Nat} {rv0 : List Int} {sv0 : ab_B} {y : Nat}
theorem ab_tr1_in {rl : List (Nat × Nat × Int)} {a c0 : Nat} {d : Int} {rv : List Int} (hR : ab_Rl rv rl) : ∀ {l : List (Nat × Nat × Int)}, (∀ r ∈ l, r ∈ rl) → ab_tr1 rl a c0 l = some d → ∃ x z, rv[a]? = some x ∧ rv[c0]? = some z ∧ z + d ≤ x
  | [], _, h => by cases h
  | r :: l, hl, h => by
    unfold ab_tr1 at h
    cases hb : Nat.beq r.1 a with
    | false =>
      rw [ee_cf hb] at h
      exact ab_tr1_in hR (fun r h => hl r (List.mem_cons_of_mem _ h)) h
    | true =>
      rw [ee_ct hb] at h
      split at h
      · rename_i k hk
        cases h
        have e1 : r.1 = a := Nat.eq_of_beq_eq_true hb
        obtain ⟨x, u, x1, x2, x3⟩ := hR r (hl r List.mem_cons_self)
        obtain ⟨u', z, y1, y2, y3⟩ := ab_rk_in hR hk
        rw [x2] at y1
        cases y1
        rw [e1] at x1
        exact ⟨x, z, x1, y2, by omega⟩
      · exact ab_tr1_in hR (fun r h => hl r (List.mem_cons_of_mem _ h)) h
theorem ab_htr_snd {a c0 : Nat} {S : ab_S} {L : List ab_S} (h : ab_htr a c0 S = some L) (k : ∀ S ∈ L, ab_WS cls p l e R s m args below meth c Q D dA xa B rv0 sv0 y S) : ab_WS cls p l e R s m args below meth c Q D dA xa B rv0 sv0 y S := by
  obtain ⟨pc, lo, st, hh, r⟩ := S
  unfold ab_htr at h
  dsimp only at h
  split at h
  · rename_i d hd
    rw [ab_g_eq] at h
    cases h
    intro ks ws rv sv H locs ls vs hr0 hs0 hG hP hD hS hl hv
    refine k _ List.mem_cons_self ks ws rv sv H locs ls vs hr0 hs0 ⟨hG.1, fun q hq => ?_, hG.2.2⟩ hP hD hS hl hv
    rcases List.mem_cons.mp hq with rfl | hq
    · exact ab_tr1_in hG.2.1 (fun r h => h) hd
    · exact hG.2.1 q hq
  · cases h
end HTR
abbrev ab_Ad : Type := (Nat × Nat) × List ab_Key
abbrev ab_Hn : Type := Nat × ab_Ad × Nat × Int × ab_Ad
def ab_wk (fs : List ab_F) : List ab_Key → Option ab_A → Option ab_A
  | [], v => v
  | k :: l, some (.inr (.inl (z + 1))) => bif Nat.beq (Nat.mod z (nat_lit 2)) (nat_lit 0) then ab_wk fs l (ab_ff fs (Nat.div z (nat_lit 2)) k) else none
  | _ :: _, _ => none
def ab_adv (a : ab_Ad) : ab_S → Option ab_A
  | (_, lo, st, h, _) => ab_wk h.2.2.2.1 a.2 (bif Nat.beq a.1.1 (nat_lit 0) then ee_nth lo a.1.2 else bif Nat.beq a.1.1 (nat_lit 2) then some (.inl (a.1.2, 1, 0)) else ee_nth st a.1.2)
/-- one hint: 0 split at z, 1 one by one, 2 clause k is used, 3 clauses are checked, 4 field k, 5 the length, 6 the element k * (the value at the second place) + z -/
def ab_hq1 (cls : Nat → List ab_Cl) (hn : ab_Hn) (S : ab_S) : Option (List ab_S) := match ab_adv hn.2.1 S with
  | some (.inl f) => bif decide (f.2.1 = 0) then none else bif Nat.beq hn.1 (nat_lit 0) then (bif decide (f.2.1 = 1) then ab_g (hn.2.2.2.1 - f.2.2) (fun z => ab_hsp f.1 z S) else none)
    else bif Nat.beq hn.1 (nat_lit 1) then (match ee_nth S.2.2.2.1.1 f.1 with
      | some q => ee_f (q.2 - q.1).toNat fun n => bif Nat.ble n (nat_lit 64) then ab_hen f.1 n q.1 S else none
      | none => none)
    else bif Nat.beq hn.1 (nat_lit 10) then (match ab_adv hn.2.2.2.2 S with
      | some (.inl g) => ab_htr f.1 g.1 S
      | _ => none)
    else none
  | some (.inr (.inl (z + 1))) => ee_f (Nat.div z (nat_lit 2)) fun i => bif Nat.beq hn.1 (nat_lit 2) then ab_hus cls i hn.2.2.1 S
    else bif Nat.beq hn.1 (nat_lit 3) then ab_hck cls i S
    else bif Nat.beq hn.1 (nat_lit 4) then ab_hto i (nat_lit 0, hn.2.2.1, 0, 0) S
    else bif Nat.beq hn.1 (nat_lit 5) then ab_hto i (nat_lit 2, nat_lit 0, 0, 0) S
    else bif Nat.beq hn.1 (nat_lit 6) then (match ab_adv hn.2.2.2.2 S with
      | some (.inl f) => ab_g ((hn.2.2.1 : Int) * f.2.1) fun u => ab_g ((hn.2.2.1 : Int) * f.2.2 + hn.2.2.2.1) fun o => bif decide (u = 0) then ab_hto i (nat_lit 1, nat_lit 0, 0, o) S else ab_hto i (nat_lit 1, f.1, u, o) S
      | _ => none)
    else bif Nat.beq hn.1 (nat_lit 7) then (match ab_adv hn.2.2.2.2 S with
      | some (.inl f) => ab_hrw i f S
      | _ => none)
    else bif Nat.beq hn.1 (nat_lit 8) then ab_hl4 i S
    else bif Nat.beq hn.1 (nat_lit 9) then ab_hcw cls i hn.2.2.1 S
    else none
  | _ => none
section HP
variable {cls : Nat → List ab_Cl} {p : Program} {l : Launch} {e : Env} {R : Room} {s : State} {m : MethodId} {args : Array Value} {below : List Frame} {meth : Method} {c : Code} {Q : State → Prop} {D : va_G} {dA : Nat → ClassId} {xa : List Nat} {xt : ee_X} {B : Nat} {rv0 : List Int} {sv0 : ab_B} {y : Nat}
theorem ab_hq1_snd {hn : ab_Hn} {S : ab_S} {L : List ab_S} (hL : ab_hq1 cls hn S = some L) (k : ∀ S' ∈ L, ab_WS cls p l e R s m args below meth c Q D dA xa B rv0 sv0 y S') : ab_WS cls p l e R s m args below meth c Q D dA xa B rv0 sv0 y S := by
  unfold ab_hq1 at hL
  split at hL
  · rename_i f hf
    cases c9 : decide (f.2.1 = 0) with
    | true => rw [ee_ct c9] at hL; cases hL
    | false =>
    rw [ee_cf c9] at hL
    cases c0 : Nat.beq hn.1 (nat_lit 0) with
    | true =>
      rw [ee_ct c0] at hL
      cases c1 : decide (f.2.1 = 1) with
      | true =>
        rw [ee_ct c1, ab_g_eq] at hL
        exact ab_hsp_snd hL k
      | false => rw [ee_cf c1] at hL; cases hL
    | false =>
    rw [ee_cf c0] at hL
    cases c1 : Nat.beq hn.1 (nat_lit 1) with
    | false =>
      rw [ee_cf c1] at hL
      cases c10 : Nat.beq hn.1 (nat_lit 10) with
      | false => rw [ee_cf c10] at hL; cases hL
      | true =>
        rw [ee_ct c10] at hL
        split at hL
        · exact ab_htr_snd hL k
        · cases hL
    | true =>
      rw [ee_ct c1] at hL
      split at hL
      · rename_i q hq
        rw [ee_f_eq] at hL
        cases c2 : Nat.ble (q.2 - q.1).toNat (nat_lit 64) with
        | true => rw [ee_ct c2] at hL; exact ab_hen_snd hL k
        | false => rw [ee_cf c2] at hL; cases hL
      · cases hL
  · rename_i z hz
    rw [ee_f_eq] at hL
    cases c2 : Nat.beq hn.1 (nat_lit 2) with
    | true => rw [ee_ct c2] at hL; exact ab_hus_snd hL k
    | false =>
    rw [ee_cf c2] at hL
    cases c3 : Nat.beq hn.1 (nat_lit 3) with
    | true => rw [ee_ct c3] at hL; exact ab_hck_snd hL k
    | false =>
    rw [ee_cf c3] at hL
    cases c4 : Nat.beq hn.1 (nat_lit 4) with
    | true => rw [ee_ct c4] at hL; exact ab_hto_snd hL k
    | false =>
    rw [ee_cf c4] at hL
    cases c5 : Nat.beq hn.1 (nat_lit 5) with
    | true => rw [ee_ct c5] at hL; exact ab_hto_snd hL k
    | false =>
    rw [ee_cf c5] at hL
    cases c6 : Nat.beq hn.1 (nat_lit 6) with
    | false =>
      rw [ee_cf c6] at hL
      cases c7 : Nat.beq hn.1 (nat_lit 7) with
      | true =>
        rw [ee_ct c7] at hL
        split at hL
        · exact ab_hrw_snd hL k
        · cases hL
      | false =>
        rw [ee_cf c7] at hL
        cases c8 : Nat.beq hn.1 (nat_lit 8) with
        | true => rw [ee_ct c8] at hL; exact ab_hl4_snd hL k
        | false =>
          rw [ee_cf c8] at hL
          cases c9 : Nat.beq hn.1 (nat_lit 9) with
          | true => rw [ee_ct c9] at hL; exact ab_hcw_snd hL k
          | false => rw [ee_cf c9] at hL; cases hL
    | true =>
      rw [ee_ct c6] at hL
      split at hL
      · rename_i f hf
        rw [ab_g_eq, ab_g_eq] at hL
        cases c7 : decide ((hn.2.2.1 : Int) * f.2.1 = 0) with
        | true => rw [ee_ct c7] at hL; exact ab_hto_snd hL k
        | false => rw [ee_cf c7] at hL; exact ab_hto_snd hL k
      · cases hL
  · cases hL
end HP
