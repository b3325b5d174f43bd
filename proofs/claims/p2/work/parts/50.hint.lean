/-! ===== hints by places ===== -/
/-- a field, an element, a length is read, so that there is a fact of it -/
def ab_hto (i : Nat) (key : ab_Key) : ab_S → Option (List ab_S)
  | (pc, lo, st, h, r) => match ab_ff h.2.2.2.1 i key with
    | some _ => none
    | none => match ee_nth h.2.2.1 i with
      | some κ => bif Nat.beq key.1 (nat_lit 0) then (match ab_ko κ with
          | some q => (match ee_nth q.2 key.2.1 with
            | some t => ab_val t h fun h' a => [(pc, lo, st, ab_adf h' (i, key, a), r)]
            | none => none)
          | none => none)
        else bif Nat.beq key.1 (nat_lit 2) then (match ab_ka κ with
          | some q => bif decide (q.2.2 < 2147483648) then ab_val (.inl q.2) h (fun h' a => [(pc, lo, st, ab_adf h' (i, key, a), r)]) else none
          | none => none)
        else bif Nat.beq key.1 (nat_lit 1) then (match ab_ka κ with
          | some q => bif !Nat.beq q.1 (nat_lit 1) && (ab_inb h i q.2.1 key.2 && decide (q.2.2 < 2147483648)) then (match ab_et κ h key.2 with
            | some t => ab_val t h fun h' a => [(pc, lo, st, ab_adf h' (i, key, a), r)]
            | none => none) else none
          | none => none)
        else none
      | none => none
section HT
variable {cls : Nat → List ab_Cl} {p : Program} {l : Launch} {e : Env} {R : Room} {s : State} {m : MethodId} {args : Array Value} {below : List Frame} {meth : Method} {c : Code} {Q : State → Prop} {D : va_G} {dA : Nat → ClassId} {xa : List Nat} {xt : ee_X} {B : Nat} {rv0 : List Int} {sv0 : ab_B} {y : Nat}
theorem ab_hto_snd {i : Nat} {key : ab_Key} {S : ab_S} {L : List ab_S} (h : ab_hto i key S = some L) (k : ∀ S ∈ L, ab_WS cls p l e R s m args below meth c Q D dA xa B rv0 sv0 y S) : ab_WS cls p l e R s m args below meth c Q D dA xa B rv0 sv0 y S := by
  obtain ⟨pc, lo, st, hh, r⟩ := S
  unfold ab_hto at h
  dsimp only at h
  split at h
  · cases h
  · split at h
    · rename_i κ hκ
      intro ks ws rv sv H locs ls vs hr0 hs0 hG hP hD hS hl hv
      rw [ee_nth_eq] at hκ
      obtain ⟨q, e9, hq1, hk1, hk2⟩ := hG.2.2.1.2 _ κ hκ
      obtain ⟨a9, e8, hw8, hcell⟩ := hG.2.2.2.2.1.2 _ κ hk1
      rw [hk2] at hw8
      cases hw8
      obtain ⟨t9, f9⟩ := key
      dsimp only at h
      have fin : ∀ (ii : Int) (v9 : Value) (t : ab_T), ab_ki rv (t9, f9) = some ii → ab_rd e9 t9 ii = some v9 → ab_tv ks (ws.map (·.1)) v9 t → ab_val t hh (fun h' a => [(pc, lo, st, ab_adf h' (i, (t9, f9), a), r)]) = some L → W p l e R s m args below meth c H locs r.1 (r.2 + (ab_ph sv0.2.2.2.1 ks ws - sv0.2.2.2.2.2)) Q (F0 m pc ls vs) := by
        intro ii v9 t h1 h2 h3 h4
        obtain ⟨rv', sv', h', a', p1, p2, hG', hok', hL⟩ := ab_val_snd hG h4 h3
        refine k _ (hL _ List.mem_cons_self) ks ws rv' sv' H locs ls vs (hr0.trans p1) (ab_px_sv hs0 p2) (ab_G_adf hG' ?_) hP hD hS (ab_lo_mono p1 p2 hl) (ab_a2_mono (fun _ _ => ab_ok_mono p1 p2) hv)
        exact ⟨q, e9, ii, v9, ab_pre p2 hq1, hk2, ab_ki_mono p1 h1, h2, hok'⟩
      cases c0 : Nat.beq t9 (nat_lit 0) with
      | true =>
        rw [ee_ct c0] at h
        have e0 : t9 = 0 := Nat.eq_of_beq_eq_true c0
        subst e0
        split at h
        · rename_i q0 hko
          split at h
          · rename_i t ht
            rw [ee_nth_eq] at ht
            obtain ⟨fvs, rfl, hlen, hty⟩ := hcell.1 _ _ hko
            obtain ⟨v9, hv9, htv⟩ := hty _ t ht
            exact fin (f9.1 : Int) v9 t rfl (by show fvs[((f9.1 : Nat) : Int).toNat]? = _; rw [Int.toNat_natCast]; exact hv9) htv h
          · cases h
        · cases h
      | false =>
      rw [ee_cf c0] at h
      cases c2 : Nat.beq t9 (nat_lit 2) with
      | true =>
        rw [ee_ct c2] at h
        have e0 : t9 = 2 := Nat.eq_of_beq_eq_true c2
        subst e0
        split at h
        · rename_i q0 hka
          obtain ⟨t0, mn, mx⟩ := q0
          cases hc : decide (mx < 2147483648) with
          | false => dsimp only at h; rw [ee_cf hc] at h; cases h
          | true =>
            dsimp only at h
            rw [ee_ct hc] at h
            rw [decide_eq_true_eq] at hc
            obtain ⟨nn, xx, rfl, h5, h6⟩ : ∃ (nn : Nat) (xx : (Nat → Int32) ⊕ ((Nat → Int64) ⊕ ((Nat → UInt32) ⊕ ((Nat → UInt64) ⊕ (Nat → Option Nat))))), e9 = .inl (dA t0, nn, xx) ∧ mn ≤ (nn : Int) ∧ (nn : Int) ≤ mx := by
              rcases hcell.2.1 _ _ _ hka with ⟨ht, nn, ff, rfl, h5, h6, h7⟩ | ⟨rfl, nn, ff, rfl, h5, h6⟩ | ⟨h3, h36, nn, gg, rfl, h5, h6, h7⟩
              · exact ⟨nn, _, rfl, h5, h6⟩
              · exact ⟨nn, _, rfl, h5, h6⟩
              · exact ⟨nn, _, rfl, h5, h6⟩
            have hlt : nn < 2147483648 := by omega
            have e7 : (Int32.ofNat nn).toInt = (nn : Int) := nI_toInt (n := nn) (by omega)
            have hrd : ab_rd (.inl (dA t0, nn, xx)) 2 0 = some (Value.int (Int32.ofNat nn)) := by
              show (if nn < 2147483648 then some (Value.int (Int32.ofNat nn)) else none) = _
              rw [if_pos hlt]
            exact fin 0 _ (.inl (mn, mx)) rfl hrd ⟨_, rfl, by rw [e7]; exact h5, by rw [e7]; exact h6⟩ h
        · cases h
      | false =>
      rw [ee_cf c2] at h
      cases c1 : Nat.beq t9 (nat_lit 1) with
      | false => rw [ee_cf c1] at h; cases h
      | true =>
        rw [ee_ct c1] at h
        have e0 : t9 = 1 := Nat.eq_of_beq_eq_true c1
        subst e0
        split at h
        · rename_i q0 hka
          obtain ⟨t0, mn, mx⟩ := q0
          dsimp only at h
          cases hc : (!Nat.beq t0 (nat_lit 1) && (ab_inb hh i mn f9 && decide (mx < 2147483648))) with
          | false => rw [ee_cf hc] at h; cases h
          | true =>
            rw [ee_ct hc] at h
            rw [Bool.and_eq_true, Bool.and_eq_true, decide_eq_true_eq] at hc
            obtain ⟨hc1, hc2, hmx⟩ := hc
            have hc : (!Nat.beq t0 (nat_lit 1)) = true ∧ ab_inb hh i mn f9 = true := ⟨hc1, hc2⟩
            split at h
            · rename_i t ht
              have hev : ∃ xx : Int32, ab_ev rv f9 = some xx.toInt := by
                have hi := hc.2
                unfold ab_inb at hi
                split at hi
                · rename_i pq hpq
                  have hx0 : ∃ x, ab_ev rv f9 = some x := by
                    unfold ab_bd at hpq
                    by_cases h0 : f9.2.1 = 0
                    · exact ⟨_, ab_ev0 h0⟩
                    · rw [ee_cf (by simpa using h0)] at hpq
                      split at hpq
                      · rename_i w9 hw9
                        rw [ee_nth_eq] at hw9
                        obtain ⟨z, z1, -⟩ := hG.1.2 _ _ hw9
                        refine ⟨f9.2.1 * z + f9.2.2, ?_⟩
                        unfold ab_ev
                        rw [if_neg h0, z1]
                        rfl
                      · cases hpq
                  obtain ⟨x, hx⟩ := hx0
                  have b9 := ab_bd_in hG.1 hpq hx
                  rw [Bool.and_eq_true, Bool.or_eq_true, decide_eq_true_eq, decide_eq_true_eq] at hi
                  have hup : x < 2147483648 := by
                    rcases hi.2 with h9 | h9
                    · obtain ⟨nn, h5⟩ : ∃ nn : Nat, mn ≤ (nn : Int) ∧ (nn : Int) ≤ mx := by
                        rcases hcell.2.1 _ _ _ hka with ⟨-, nn, ff, -, h5, h6, -⟩ | ⟨-, nn, ff, -, h5, h6⟩ | ⟨-, -, nn, gg, -, h5, h6, -⟩
                        · exact ⟨nn, h5, h6⟩
                        · exact ⟨nn, h5, h6⟩
                        · exact ⟨nn, h5, h6⟩
                      omega
                    · split at h9
                      · rename_i g9 hg9
                        split at h9
                        · rename_i d hd
                          obtain ⟨qf, ef, ii, vf, -, -, -, -, xg, -, hxg⟩ := hG.2.2.2.1 _ (ab_ff_in hg9)
                          have d9 := ab_dl_in hG.1 hG.2.1 hxg hx hd
                          rw [decide_eq_true_eq] at h9
                          have := (ab_i32 xg).2
                          omega
                        · cases h9
                      · cases h9
                  refine ⟨Int32.ofInt x, ?_⟩
                  rw [hx, Int32.toInt_ofInt, ab_bm (by omega) (by omega)]
                · cases hi
              obtain ⟨iv, hiv⟩ := hev
              rcases hcell.2.1 _ _ _ hka with ⟨ht9, nn, ff, rfl, h5, h6, h7⟩ | ⟨rfl, nn, ff, rfl, h5, h6⟩ | ⟨h3, h36, nn, gg, rfl, h5, h6, h7⟩
              · obtain ⟨x1, x2⟩ := ab_inb_snd hG hc.2 hiv hq1 hk2 h5
                exact fin iv.toInt _ t hiv (if_pos ⟨x1, x2⟩) (ab_et_snd hG.1 ht hiv x1 (h7 iv.toInt.toNat (by omega))) h
              · cases hc.1
              · obtain ⟨x1, x2⟩ := ab_inb_snd hG hc.2 hiv hq1 hk2 h5
                exact fin iv.toInt _ t hiv (if_pos ⟨x1, x2⟩) (ab_et_snd hG.1 ht hiv x1 (h7 iv.toInt.toNat (by omega))) h
            · cases h
        · cases h
    · cases h
end HT
abbrev ab_Ad : Type := (Nat × Nat) × List ab_Key
abbrev ab_Hn : Type := Nat × ab_Ad × Nat × Int × ab_Ad
def ab_wk (fs : List ab_F) : List ab_Key → Option ab_A → Option ab_A
  | [], v => v
  | k :: l, some (.inr (.inl (z + 1))) => bif Nat.beq (Nat.mod z (nat_lit 2)) (nat_lit 0) then ab_wk fs l (ab_ff fs (Nat.div z (nat_lit 2)) k) else none
  | _ :: _, _ => none
def ab_adv (a : ab_Ad) : ab_S → Option ab_A
  | (_, lo, st, h, _) => ab_wk h.2.2.2.1 a.2 (bif Nat.beq a.1.1 (nat_lit 0) then ee_nth lo a.1.2 else ee_nth st a.1.2)
/-- one hint: 0 split at z, 1 one by one, 2 clause k is used, 3 clauses are checked, 4 field k, 5 the length, 6 the element k * (the value at the second place) + z -/
def ab_hp1 (cls : Nat → List ab_Cl) (hn : ab_Hn) (S : ab_S) : Option (List ab_S) := match ab_adv hn.2.1 S with
  | some (.inl f) => bif decide (f.2.1 = 0) then none else bif Nat.beq hn.1 (nat_lit 0) then (bif decide (f.2.1 = 1) then ab_g (hn.2.2.2.1 - f.2.2) (fun z => ab_hsp f.1 z S) else none)
    else bif Nat.beq hn.1 (nat_lit 1) then (match ee_nth S.2.2.2.1.1 f.1 with
      | some q => ee_f (q.2 - q.1).toNat fun n => bif Nat.ble n (nat_lit 64) then ab_hen f.1 n q.1 S else none
      | none => none)
    else none
  | some (.inr (.inl (z + 1))) => ee_f (Nat.div z (nat_lit 2)) fun i => bif Nat.beq hn.1 (nat_lit 2) then ab_hus cls i hn.2.2.1 S
    else bif Nat.beq hn.1 (nat_lit 3) then ab_hck cls i S
    else bif Nat.beq hn.1 (nat_lit 4) then ab_hto i (nat_lit 0, hn.2.2.1, 0, 0) S
    else bif Nat.beq hn.1 (nat_lit 5) then ab_hto i (nat_lit 2, nat_lit 0, 0, 0) S
    else bif Nat.beq hn.1 (nat_lit 6) then (match ab_adv hn.2.2.2.2 S with
      | some (.inl f) => ab_g ((hn.2.2.1 : Int) * f.2.1) fun u => ab_g ((hn.2.2.1 : Int) * f.2.2 + hn.2.2.2.1) fun o => bif decide (u = 0) then ab_hto i (nat_lit 1, nat_lit 0, 0, o) S else ab_hto i (nat_lit 1, f.1, u, o) S
      | _ => none)
    else none
  | _ => none
def ab_hp (cls : Nat → List ab_Cl) (hn : ab_Hn) (S : ab_S) : List ab_S := match ab_hp1 cls hn S with
  | some L => L
  | none => [S]
def ab_hpl (cls : Nat → List ab_Cl) (hn : ab_Hn) : List ab_S → List ab_S
  | [] => []
  | S :: l => ab_app (ab_hp cls hn S) (ab_hpl cls hn l)
def ab_hps (cls : Nat → List ab_Cl) : List ab_Hn → List ab_S → List ab_S
  | [], L => L
  | hn :: l, L => ab_hps cls l (ab_hpl cls hn L)
section HP
variable {cls : Nat → List ab_Cl} {p : Program} {l : Launch} {e : Env} {R : Room} {s : State} {m : MethodId} {args : Array Value} {below : List Frame} {meth : Method} {c : Code} {Q : State → Prop} {D : va_G} {dA : Nat → ClassId} {xa : List Nat} {xt : ee_X} {B : Nat} {rv0 : List Int} {sv0 : ab_B} {y : Nat}
theorem ab_hp_snd {hn : ab_Hn} {S : ab_S} (k : ∀ S' ∈ ab_hp cls hn S, ab_WS cls p l e R s m args below meth c Q D dA xa B rv0 sv0 y S') : ab_WS cls p l e R s m args below meth c Q D dA xa B rv0 sv0 y S := by
  unfold ab_hp at k
  split at k
  · rename_i L hL
    unfold ab_hp1 at hL
    split at hL
    · rename_i f hf
      cases c9 : decide (f.2.1 = 0) with
      | true => rw [ee_ct c9] at hL; cases hL
      | false =>
      rw [ee_cf c9] at hL
      cases c0 : Nat.beq hn.1 (nat_lit 0) with
      | true =>
        rw [ee_ct c0] at hL
        cases c1 : decide (f.2.1 = 1) with
        | true =>
          rw [ee_ct c1, ab_g_eq] at hL
          exact ab_hsp_snd hL k
        | false => rw [ee_cf c1] at hL; cases hL
      | false =>
      rw [ee_cf c0] at hL
      cases c1 : Nat.beq hn.1 (nat_lit 1) with
      | false => rw [ee_cf c1] at hL; cases hL
      | true =>
        rw [ee_ct c1] at hL
        split at hL
        · rename_i q hq
          rw [ee_f_eq] at hL
          cases c2 : Nat.ble (q.2 - q.1).toNat (nat_lit 64) with
          | true => rw [ee_ct c2] at hL; exact ab_hen_snd hL k
          | false => rw [ee_cf c2] at hL; cases hL
        · cases hL
    · rename_i z hz
      rw [ee_f_eq] at hL
      cases c2 : Nat.beq hn.1 (nat_lit 2) with
      | true => rw [ee_ct c2] at hL; exact ab_hus_snd hL k
      | false =>
      rw [ee_cf c2] at hL
      cases c3 : Nat.beq hn.1 (nat_lit 3) with
      | true => rw [ee_ct c3] at hL; exact ab_hck_snd hL k
      | false =>
      rw [ee_cf c3] at hL
      cases c4 : Nat.beq hn.1 (nat_lit 4) with
      | true => rw [ee_ct c4] at hL; exact ab_hto_snd hL k
      | false =>
      rw [ee_cf c4] at hL
      cases c5 : Nat.beq hn.1 (nat_lit 5) with
      | true => rw [ee_ct c5] at hL; exact ab_hto_snd hL k
      | false =>
      rw [ee_cf c5] at hL
      cases c6 : Nat.beq hn.1 (nat_lit 6) with
      | false => rw [ee_cf c6] at hL; cases hL
      | true =>
        rw [ee_ct c6] at hL
        split at hL
        · rename_i f hf
          rw [ab_g_eq, ab_g_eq] at hL
          cases c7 : decide ((hn.2.2.1 : Int) * f.2.1 = 0) with
          | true => rw [ee_ct c7] at hL; exact ab_hto_snd hL k
          | false => rw [ee_cf c7] at hL; exact ab_hto_snd hL k
        · cases hL
    · cases hL
  · exact k S List.mem_cons_self
theorem ab_hpl_snd {hn : ab_Hn} : ∀ {L : List ab_S}, (∀ S' ∈ ab_hpl cls hn L, ab_WS cls p l e R s m args below meth c Q D dA xa B rv0 sv0 y S') → ∀ S ∈ L, ab_WS cls p l e R s m args below meth c Q D dA xa B rv0 sv0 y S
  | [], _, S, hS => by cases hS
  | S0 :: L, k, S, hS => by
    unfold ab_hpl at k
    rw [ab_app_eq] at k
    rcases List.mem_cons.mp hS with rfl | hS
    · exact ab_hp_snd (fun S' h' => k S' (List.mem_append_left _ h'))
    · exact ab_hpl_snd (fun S' h' => k S' (List.mem_append_right _ h')) S hS
theorem ab_hps_snd : ∀ {hs : List ab_Hn} {L : List ab_S}, (∀ S' ∈ ab_hps cls hs L, ab_WS cls p l e R s m args below meth c Q D dA xa B rv0 sv0 y S') → ∀ S ∈ L, ab_WS cls p l e R s m args below meth c Q D dA xa B rv0 sv0 y S
  | [], L, k, S, hS => k S hS
  | hn :: hs, L, k, S, hS => ab_hpl_snd (ab_hps_snd k) S hS
end HP
