/-! ===== loads ===== -/
def ab_o28 (want n : Nat) : ab_S → Option (List ab_S)
  | (pc, lo, .inl f :: .inr (.inl (z + 1)) :: st, h, r) => bif Nat.beq (Nat.mod z (nat_lit 2)) (nat_lit 0) then (ee_f (Nat.div z (nat_lit 2)) fun i => match ee_nth h.2.2.1 i with
      | some κ => (match ab_ka κ with
        | some q => bif ab_kt q.1 want && ab_inb h i q.2.1 f then (bif Nat.beq want (nat_lit 1) then some [(Nat.add pc n, lo, .inr (.inr (nat_lit 1)) :: st, h, r)] else (match ab_ff h.2.2.2.1 i (nat_lit 1, f) with
            | some a => bif ab_is1 a then some [(Nat.add pc n, lo, a :: st, h, r)] else none
            | none => (match ab_et κ h f with
              | some t => ab_val t h fun h' a => [(Nat.add pc n, lo, a :: st, ab_adf h' (i, (nat_lit 1, f), a), r)]
              | none => none))) else none
        | none => none)
      | none => none) else none
  | _ => none
/-- the length: a fact, or a new name -/
def ab_o34 (n : Nat) : ab_S → Option (List ab_S)
  | (pc, lo, .inr (.inl (z + 1)) :: st, h, r) => bif Nat.beq (Nat.mod z (nat_lit 2)) (nat_lit 0) then (ee_f (Nat.div z (nat_lit 2)) fun i => match ee_nth h.2.2.1 i with
      | some κ => (match ab_ka κ with
        | some q => bif decide (q.2.2 < 2147483648) && Nat.ble q.1 (nat_lit 6) then (match ab_ff h.2.2.2.1 i (nat_lit 2, nat_lit 0, 0, 0) with
            | some a => bif ab_is1 a then some [(Nat.add pc n, lo, a :: st, h, r)] else none
            | none => ab_val (.inl q.2) h fun h' a => [(Nat.add pc n, lo, a :: st, ab_adf h' (i, (nat_lit 2, nat_lit 0, 0, 0), a), r)]) else none
        | none => none)
      | none => none) else none
  | _ => none
section LD
variable {cls : Nat → List ab_Cl} {p : Program} {l : Launch} {e : Env} {R : Room} {s : State} {m : MethodId} {args : Array Value} {below : List Frame} {meth : Method} {c : Code} {Q : State → Prop} {D : va_G} {dA : Nat → ClassId} {xa : List Nat} {xt : ee_X} {B : Nat} {rv0 : List Int} {sv0 : ab_B} {y : Nat}
variable {pc a b n : Nat} {r : List ab_A × List ab_A × ab_H × Nat × Nat} {L : List ab_S}
/-- a load of an int, a boolean or a reference; of a long -/
theorem as_28 {want op : Nat} (hop : (op = 28 ∧ want = 0) ∨ (op = 30 ∧ want = 3) ∨ (op = 32 ∧ want = 2) ∨ (op = 72 ∧ want = 1)) (hC : ee_C p s m args meth c D dA xa xt B y) (hs : ee_sc y pc (op, a, b, n) = true) (h : ab_o28 want n (pc, r) = some L) (k : ∀ S ∈ L, ab_WS cls p l e R s m args below meth c Q D dA xa B rv0 sv0 y S) : ab_WS cls p l e R s m args below meth c Q D dA xa B rv0 sv0 y (pc, r) := by
  unfold ab_o28 at h
  split at h
  · rename_i pc' lo f z st hh r' heq
    cases heq
    cases hz : Nat.beq (Nat.mod z (nat_lit 2)) (nat_lit 0) with
    | false => rw [ee_cf hz] at h; cases h
    | true =>
      rw [ee_ct hz, ee_f_eq] at h
      split at h
      · rename_i κ hκ
        split at h
        · rename_i q0 hka
          obtain ⟨t0, mn, mx⟩ := q0
          cases hc : (ab_kt t0 want && ab_inb hh (Nat.div z (nat_lit 2)) mn f) with
          | false => rw [ee_cf hc] at h; cases h
          | true =>
            rw [ee_ct hc] at h
            rw [Bool.and_eq_true] at hc
            intro ks ws rv sv H locs ls vs hr0 hs0 hG hP hD hS hl hv
            match vs, hv with
            | vi :: vr :: vs, ⟨⟨iv, ei, hiv⟩, hok, hvt⟩ =>
              subst ei
              obtain ⟨q, hq1, rfl⟩ := ab_nnul hz hok
              rw [ee_nth_eq] at hκ
              obtain ⟨q', e9, hq2, hk1, hk2⟩ := hG.2.2.1.2 _ κ hκ
              have hq3 : sv[z / 2]? = some q' := hq2
              rw [hq1] at hq3
              cases hq3
              obtain ⟨a9, e8, hw8, hcell⟩ := hG.2.2.2.2.1.2 _ κ hk1
              rw [hk2] at hw8
              cases hw8
              have go : ∀ (v9 : Value), ab_rd e9 1 iv.toInt = some v9 → ab_tv ks (ws.map (·.1)) v9 (ab_ke κ iv.toInt.toNat) → 0 ≤ iv.toInt → want ≠ 1 → ∃ (rv' : List Int) (sv' : List (Nat × Nat)) (S' : ab_S), S' ∈ L ∧ S'.1 = Nat.add pc n ∧ S'.2.1 = lo ∧ (∃ a', S'.2.2.1 = a' :: st ∧ ab_ok rv' sv' xa v9 a') ∧ S'.2.2.2.2 = r' ∧ rv <+: rv' ∧ sv <+: sv' ∧ ab_G cls dA xa ks ws rv' sv' S'.2.2.2.1 := by
                intro v9 hrd htv h0 hw1
                have hw1' : Nat.beq want (nat_lit 1) = false := ee_bn hw1
                rw [ee_cf hw1'] at h
                split at h
                · rename_i w hw
                  cases h1 : ab_is1 w with
                  | false => rw [ee_cf h1] at h; cases h
                  | true =>
                    rw [ee_ct h1] at h
                    cases h
                    obtain ⟨qf, ef, ii, vf, f1, f2, f3, f4, f5⟩ := hG.2.2.2.1 _ (ab_ff_in hw)
                    have f1' : sv[z / 2]? = some qf := f1
                    rw [hq1] at f1'
                    cases f1'
                    rw [hk2] at f2
                    cases f2
                    have f3' : ab_ev rv f = some ii := f3
                    rw [hiv] at f3'
                    cases f3'
                    have f4' : ab_rd e9 1 iv.toInt = some vf := f4
                    rw [hrd] at f4'
                    cases f4'
                    exact ⟨rv, sv, _, List.mem_cons_self, rfl, rfl, ⟨w, rfl, f5⟩, rfl, List.prefix_refl rv, List.prefix_refl sv, hG⟩
                · split at h
                  · rename_i t ht
                    obtain ⟨rv', sv', h', a', p1, p2, hG', hok', hL⟩ := ab_val_snd hG h (ab_et_snd hG.1 ht hiv h0 htv)
                    refine ⟨rv', sv', _, hL _ List.mem_cons_self, rfl, rfl, ⟨a', rfl, hok'⟩, rfl, p1, p2, ab_G_adf hG' ?_⟩
                    exact ⟨q, e9, iv.toInt, v9, ab_pre p2 hq1, hk2, ab_ev_mono p1 hiv, hrd, hok'⟩
                  · cases h
              have onward : ∀ (v9 : Value), ab_rd e9 1 iv.toInt = some v9 → ab_tv ks (ws.map (·.1)) v9 (ab_ke κ iv.toInt.toNat) → 0 ≤ iv.toInt → want ≠ 1 → W p l e R s m args below meth c H locs (r'.1 + (ab_ph sv0.2.2.2.1 ks ws / 1024 - sv0.2.2.2.2.2 / 1024)) (r'.2 + (ab_ph sv0.2.2.2.1 ks ws - sv0.2.2.2.2.2)) Q (F0 m (pc + n) ls (v9 :: vs)) := by
                intro v9 hrd htv h0 hw1
                obtain ⟨rv', sv', S', hm, e1, e2, ⟨a', e3, hok'⟩, e4, p1, p2, hG'⟩ := go v9 hrd htv h0 hw1
                obtain ⟨s1, s2, s3, s4, s5⟩ := S'
                dsimp only at e1 e2 e3 e4
                subst e1; subst e2; subst e3; subst e4
                exact k _ hm ks ws rv' sv' H locs ls (v9 :: vs) (hr0.trans p1) (ab_px_sv hs0 p2) hG' hP hD hS (ab_lo_mono p1 p2 hl) ⟨hok', ab_a2_mono (fun _ _ => ab_ok_mono p1 p2) hvt⟩
              rcases hcell.2.1 _ _ _ hka with ⟨ht, nn, ff, rfl, h5, h6, h7⟩ | ⟨rfl, nn, ff, rfl, h5, h6⟩ | ⟨h3, h36, nn, gg, rfl, h5, h6, h7⟩
              · obtain ⟨x1, x2⟩ := ab_inb_snd hG hc.2 hiv hq1 hk2 h5
                obtain ⟨v1, v2⟩ := ab_vin x1 x2
                have hrd : ab_rd (.inl (dA t0, nn, .inl ff)) 1 iv.toInt = some (.int (ff iv.toInt.toNat)) := if_pos ⟨x1, x2⟩
                have htv := h7 iv.toInt.toNat (by omega)
                rcases hop with ⟨rfl, rfl⟩ | ⟨rfl, rfl⟩ | ⟨rfl, rfl⟩ | ⟨rfl, rfl⟩
                · have e0 : t0 = 0 := Nat.eq_of_beq_eq_true (show Nat.beq t0 0 = true from hc.1)
                  subst e0
                  exact sm_28 hC hs hP hk2 v1 (by rw [v2]; exact onward _ hrd htv x1 (by decide))
                · exfalso
                  have e0 : (Nat.ble 3 t0 && Nat.ble t0 6) = true := hc.1
                  rw [Bool.and_eq_true] at e0
                  have := Nat.le_of_ble_eq_true e0.1
                  omega
                · have e0 : t0 = 2 := Nat.eq_of_beq_eq_true (show Nat.beq t0 2 = true from hc.1)
                  subst e0
                  exact sm_32 hC hs hP hk2 v1 (by rw [v2]; exact onward _ hrd htv x1 (by decide))
                · have e0 : t0 = 1 := Nat.eq_of_beq_eq_true (show Nat.beq t0 1 = true from hc.1)
                  omega
              · obtain ⟨x1, x2⟩ := ab_inb_snd hG hc.2 hiv hq1 hk2 h5
                obtain ⟨v1, v2⟩ := ab_vin x1 x2
                rcases hop with ⟨rfl, rfl⟩ | ⟨rfl, rfl⟩ | ⟨rfl, rfl⟩ | ⟨rfl, rfl⟩
                · cases (show Nat.beq 1 0 = true from hc.1)
                · cases (show (Nat.ble 3 1 && Nat.ble 1 6) = true from hc.1)
                · cases (show Nat.beq 1 2 = true from hc.1)
                · have h9 : some [(Nat.add pc n, lo, (.inr (.inr (nat_lit 1)) : ab_A) :: st, hh, r')] = some L := h
                  cases h9
                  exact sm_72 hC hs hP hk2 v1 (k _ List.mem_cons_self ks ws rv sv H locs ls _ hr0 hs0 hG hP hD hS hl ⟨⟨_, rfl⟩, hvt⟩)
              · obtain ⟨x1, x2⟩ := ab_inb_snd hG hc.2 hiv hq1 hk2 h5
                obtain ⟨v1, v2⟩ := ab_vin x1 x2
                have hrd : ab_rd (.inl (dA t0, nn, .inr (.inr (.inr (.inr gg))))) 1 iv.toInt = some (va_rf (gg iv.toInt.toNat)) := if_pos ⟨x1, x2⟩
                have htv := h7 iv.toInt.toNat (by omega)
                rcases hop with ⟨rfl, rfl⟩ | ⟨rfl, rfl⟩ | ⟨rfl, rfl⟩ | ⟨rfl, rfl⟩
                · have e0 : t0 = 0 := Nat.eq_of_beq_eq_true (show Nat.beq t0 0 = true from hc.1)
                  omega
                · exact sm_30 hC hs hP ⟨h3, h36⟩ hk2 v1 (by rw [v2]; exact onward _ hrd htv x1 (by decide))
                · have e0 : t0 = 2 := Nat.eq_of_beq_eq_true (show Nat.beq t0 2 = true from hc.1)
                  omega
                · have e0 : t0 = 1 := Nat.eq_of_beq_eq_true (show Nat.beq t0 1 = true from hc.1)
                  omega
        · cases h
      · cases h
  · cases h
end LD
