/-! ===== putfield ===== -/
/-- a described value is of a type -/
def ab_fits (h : ab_H) (t : ab_T) (a : ab_A) : Bool := match t, a with
  | .inl q, .inl f => (match ab_bd h.1 f with
    | some p => decide (q.1 ≤ p.1) && decide (p.2 ≤ q.2)
    | none => false)
  | .inr (.inl mm), .inr (.inl 0) => Nat.beq (Nat.mod mm (nat_lit 2)) (nat_lit 1)
  | .inr (.inl mm), .inr (.inl (z + 1)) => Nat.beq (Nat.mod z (nat_lit 2)) (nat_lit 0) && (match ee_nth h.2.2.1 (Nat.div z (nat_lit 2)) with
    | some κ => Nat.beq κ (Nat.div mm (nat_lit 2))
    | none => false)
  | .inr (.inr 0), a => ab_is1 a
  | _, _ => false
/-- what the machine asks of a field's value: 0 int, 1 boolean, 2 a reference -/
def ab_jf (fk : Nat) (h : ab_H) (a : ab_A) : Bool := match fk, a with
  | 0, .inl _ => true
  | 1, .inl f => (match ab_bd h.1 f with
    | some p => decide (0 ≤ p.1) && decide (p.2 ≤ 1)
    | none => false)
  | 2, a => ab_isr a
  | _, _ => false
/-- facts that a write of field j of kind κ leaves -/
def ab_kf (rk : List Nat) (κ j : Nat) : List ab_F → List ab_F
  | [] => []
  | f :: fs => bif (Nat.beq f.2.1.1 (nat_lit 0) && Nat.beq f.2.1.2.1 j) && (match ee_nth rk f.1 with
      | some κ' => Nat.beq κ' κ
      | none => true) then ab_kf rk κ j fs else f :: ab_kf rk κ j fs
theorem ab_kf_in {rk : List Nat} {κ j : Nat} {fs : List ab_F} {f : ab_F} (hf : f ∈ ab_kf rk κ j fs) : f ∈ fs ∧ (¬ (f.2.1.1 = 0 ∧ f.2.1.2.1 = j) ∨ ∃ κ', rk[f.1]? = some κ' ∧ κ' ≠ κ) := by
  induction fs with
  | nil => cases hf
  | cons g fs ih =>
    unfold ab_kf at hf
    cases hc : ((Nat.beq g.2.1.1 (nat_lit 0) && Nat.beq g.2.1.2.1 j) && (match ee_nth rk g.1 with
      | some κ' => Nat.beq κ' κ
      | none => true)) with
    | true => rw [ee_ct hc] at hf; exact ⟨List.mem_cons_of_mem _ (ih hf).1, (ih hf).2⟩
    | false =>
      rw [ee_cf hc] at hf
      rcases List.mem_cons.mp hf with rfl | hf
      · refine ⟨List.mem_cons_self, ?_⟩
        rw [Bool.and_eq_false_iff] at hc
        rcases hc with hc | hc
        · refine Or.inl (fun z9 => ?_)
          rw [z9.1, z9.2] at hc
          have e9 : (Nat.beq 0 0 && Nat.beq j j) = true := by rw [Nat.beq_refl 0, Nat.beq_refl j]; rfl
          rw [e9] at hc
          cases hc
        · split at hc
          · rename_i κ' hκ'
            rw [ee_nth_eq] at hκ'
            exact Or.inr ⟨κ', hκ', fun z9 => by rw [z9, Nat.beq_refl] at hc; cases hc⟩
          · cases hc
      · exact ⟨List.mem_cons_of_mem _ (ih hf).1, (ih hf).2⟩
/-- the length of the row that a value is, between .. -/
def ab_lnf (h : ab_H) : ab_A → Option (Int × Int)
  | .inr (.inl (z + 1)) => bif Nat.beq (Nat.mod z (nat_lit 2)) (nat_lit 0) then (match ab_ff h.2.2.2.1 (Nat.div z (nat_lit 2)) (nat_lit 2, nat_lit 0, 0, 0) with
    | some (.inl g) => ab_bd h.1 g
    | _ => none) else none
  | _ => none
/-- what the Explorer's new row pays for -/
def ab_pd (h : ab_H) (κ i j : Nat) (v : ab_A) : Option Nat := bif Nat.beq κ (nat_lit 29) && (Nat.beq j (nat_lit 2) || Nat.beq j (nat_lit 4)) then (match ab_ff h.2.2.2.1 i (nat_lit 0, j, 0, 0) with
    | some a => (match ab_lnf h a, ab_lnf h v with
      | some p, some q => bif decide (p.2 ≤ q.1) && decide ((q.1 - p.2) % 512 = 0) then some (Nat.mul (nat_lit 2) (q.1 - p.2).toNat) else none
      | _, _ => none)
    | none => none) else some (nat_lit 0)
def ab_o26 (wk : Nat → Bool) (b n : Nat) : ab_S → Option (List ab_S)
  | (pc, lo, v :: .inr (.inl (z + 1)) :: st, h, r) => bif Nat.beq (Nat.mod z (nat_lit 2)) (nat_lit 0) then (ee_f (Nat.div z (nat_lit 2)) fun i => match ee_nth h.2.2.1 i with
      | some κ => (match ab_ko κ with
        | some q => bif Nat.beq q.1 (Nat.div b (nat_lit 64)) && ab_jf (ee_fk b) h v then (ee_f (Nat.mod b (nat_lit 64)) fun j => match ee_nth q.2 j with
            | some t => bif ab_fits h t v && ((match ab_ka κ with
                | none => true
                | some _ => false) && wk κ) then (match ab_pd h κ i j v with
                | some d => ee_f (Nat.sub r.1 (Nat.div d (nat_lit 1024))) fun ce => ee_f (Nat.sub r.2 d) fun sl => some [(Nat.add pc n, lo, st, (h.1, h.2.1, h.2.2.1, (i, (nat_lit 0, j, 0, 0), v) :: ab_kf h.2.2.1 κ j h.2.2.2.1, (i, (nat_lit 0, j, 0, 0)) :: h.2.2.2.2), ce, sl)]
                | none => none) else none
            | none => none) else none
        | none => none)
      | none => none) else none
  | _ => none
theorem ab_px_set' {b : ab_B} {ks : List Nat} {ws : va_W} {sv : List (Nat × Nat)} (h : ab_px b ks ws sv) {kk ax κ : Nat} {e1 e2 : va_E} (hk : ws[kk]? = some (ax, e1)) (hκ : ks[kk]? = some κ) (hw : b.2.2.1 κ = true) (hs : ab_sm (b.2.2.1 99) b.2.2.2.2.1 κ e1 e2) (he : ab_ph b.2.2.2.1 ks ws ≤ ab_ph b.2.2.2.1 ks (ws.set kk (ax, e2))) : ab_px b ks (ws.set kk (ax, e2)) sv := ⟨h.1, ab_fx_set h.2.1 hk hκ hw hs, Nat.le_trans h.2.2 he⟩
section PT
variable {cls : Nat → List ab_Cl} {p : Program} {l : Launch} {e : Env} {R : Room} {s : State} {m : MethodId} {args : Array Value} {below : List Frame} {meth : Method} {c : Code} {Q : State → Prop} {D : va_G} {dA : Nat → ClassId} {xa : List Nat} {xt : ee_X} {B : Nat} {rv0 : List Int} {sv0 : ab_B} {y : Nat}
variable {pc a b n : Nat} {r : List ab_A × List ab_A × ab_H × Nat × Nat} {L : List ab_S}
theorem ab_fits_snd {ks : List Nat} {ws : va_W} {rv : List Int} {sv : List (Nat × Nat)} {h : ab_H} (hG : ab_G cls dA xa ks ws rv sv h) {tt : ab_T} {va : ab_A} {vv : Value} (hok : ab_ok rv sv xa vv va) (hf : ab_fits h tt va = true) : ab_tv ks (ws.map (·.1)) vv tt := by
  match tt, va, hok, hf with
  | .inl q, .inl f, ⟨x, e9, hx⟩, hf =>
    unfold ab_fits at hf
    dsimp only at hf
    split at hf
    · rename_i pp hpp
      rw [Bool.and_eq_true, decide_eq_true_eq, decide_eq_true_eq] at hf
      have b9 := ab_bd_in hG.1 hpp hx
      exact ⟨x, e9, by omega, by omega⟩
    · cases hf
  | .inr (.inl mm), .inr (.inl 0), hok, hf => exact Or.inr ⟨Nat.eq_of_beq_eq_true hf, hok⟩
  | .inr (.inl mm), .inr (.inl (z + 1)), hok, hf =>
    have hf' : (Nat.beq (Nat.mod z (nat_lit 2)) (nat_lit 0) && (match ee_nth h.2.2.1 (Nat.div z (nat_lit 2)) with
      | some κ => Nat.beq κ (Nat.div mm (nat_lit 2))
      | none => false)) = true := hf
    rw [Bool.and_eq_true] at hf'
    obtain ⟨q, q1, q2⟩ := ab_nnul hf'.1 hok
    have h2 := hf'.2
    split at h2
    · rename_i κ hκ
      rw [ee_nth_eq] at hκ
      have e9 : κ = mm / 2 := Nat.eq_of_beq_eq_true h2
      obtain ⟨q', e8, w1, w2, w3⟩ := hG.2.2.1.2 _ κ hκ
      have w1' : sv[z / 2]? = some q' := w1
      rw [q1] at w1'
      cases w1'
      refine Or.inl ⟨q.1, q.2, by rw [← e9]; exact w2, ?_, q2⟩
      rw [List.getElem?_map, w3]
      rfl
    · cases h2
  | .inr (.inr 0), .inl f, ⟨x, e9, hx⟩, hf => exact Or.inr (Or.inr ⟨x, e9⟩)
  | .inr (.inr 0), .inr (.inl z), hok, hf =>
    rcases ab_ok_ref (a := .inr (.inl z)) rfl hok with h9 | h9
    · exact Or.inl h9
    · exact Or.inr (Or.inl h9)
  | .inr (.inr 0), .inr (.inr (z + 2)), hok, hf =>
    rcases ab_ok_ref (a := .inr (.inr (z + 2))) rfl hok with h9 | h9
    · exact Or.inl h9
    · exact Or.inr (Or.inl h9)
theorem ab_jf_snd {ks : List Nat} {ws : va_W} {rv : List Int} {sv : List (Nat × Nat)} {h : ab_H} (hG : ab_G cls dA xa ks ws rv sv h) {fk : Nat} {ty : FieldType} {va : ab_A} {vv : Value} {fv : Option ee_V} (hok : ab_ok rv sv xa vv va) (hf : ab_jf fk h va = true)
    (hk : (fk = 0 ∧ ty = .int ∧ fv = some (.inl (2147483648, 2147483648))) ∨ (fk = 1 ∧ ty = .boolean ∧ fv = some (.inl (2147483648, 2147483648))) ∨ (fk = 2 ∧ ((∃ n, ty = .object n) ∨ ∃ t, ty = .array t) ∧ fv = some (.inr (.inl 0)))) : narrow ty vv = vv ∧ fits ty vv = true := by
  refine ee_nf ?_
  rcases hk with ⟨rfl, rfl, -⟩ | ⟨rfl, rfl, -⟩ | ⟨rfl, hty, -⟩
  · match va, hok, hf with
    | .inl f, ⟨x, e9, hx⟩, hf => exact Or.inl ⟨rfl, x, e9⟩
  · match va, hok, hf with
    | .inl f, ⟨x, e9, hx⟩, hf =>
      have hf' : (match ab_bd h.1 f with
        | some p => decide (0 ≤ p.1) && decide (p.2 ≤ 1)
        | none => false) = true := hf
      split at hf'
      · rename_i pp hpp
        rw [Bool.and_eq_true, decide_eq_true_eq, decide_eq_true_eq] at hf'
        have b9 := ab_bd_in hG.1 hpp hx
        refine Or.inr (Or.inl ⟨rfl, x, e9, ?_⟩)
        rcases (show x.toInt = 0 ∨ x.toInt = 1 by omega) with h9 | h9
        · exact Or.inl (Int32.toInt_inj.mp h9)
        · exact Or.inr (Int32.toInt_inj.mp h9)
      · cases hf'
  · exact Or.inr (Or.inr ⟨hty, ab_ok_ref hf hok⟩)
theorem ab_lnf_snd {ks : List Nat} {ws : va_W} {rv : List Int} {sv : List (Nat × Nat)} {hh : ab_H} (hG : ab_G cls dA xa ks ws rv sv hh) (hD : va_D (fun q => B ≤ q) ws) {va : ab_A} {v : Value} {vs : List Value} {j : Nat} {p9 : Int × Int} (hok : ab_ok rv sv xa v va) (hv : vs[j]? = some v) (h : ab_lnf hh va = some p9) : p9.1 ≤ (ab_ln ws vs j : Int) ∧ (ab_ln ws vs j : Int) ≤ p9.2 := by
  unfold ab_lnf at h
  split at h
  · rename_i z
    cases hb : Nat.beq (Nat.mod z (nat_lit 2)) (nat_lit 0) with
    | false => rw [ee_cf hb] at h; cases h
    | true =>
      rw [ee_ct hb] at h
      split at h
      · rename_i g hg
        obtain ⟨q2, e2, i2, v2, g1, g2, g3, g4, g5⟩ := hG.2.2.2.1 _ (ab_ff_in hg)
        dsimp only at g1 g2 g3 g4 g5
        obtain ⟨q3, w1, w2⟩ := ab_nnul hb hok
        have w1' : sv[z / 2]? = some q3 := w1
        have g1' : sv[z / 2]? = some q2 := g1
        rw [w1'] at g1'
        cases g1'
        have har : ab_ar ws vs j = some (q2.2, e2) := by
          unfold ab_ar
          rw [hv, w2]
          dsimp only
          cases hf : ws.find? (fun z => z.1 == q2.2) with
          | none =>
            have h6 := List.find?_eq_none.mp hf (q2.2, e2) (List.mem_of_getElem? g2)
            exact absurd (by simp) h6
          | some q9 =>
            have h7 := List.find?_some hf
            have h8 : q9.1 = q2.2 := by simpa using h7
            obtain ⟨k7, hk7⟩ := List.getElem?_of_mem (List.mem_of_find?_eq_some hf)
            have hkk : k7 = q2.1 := hD.1 k7 q2.1 q9 _ hk7 g2 h8
            subst hkk
            rw [hk7] at g2
            rw [← Option.some.inj g2]
        unfold ab_ln
        rw [har]
        obtain ⟨x5, x6, x7⟩ := g5
        have b9 := ab_bd_in hG.1 h x7
        match e2, g4 with
        | .inl (cA, n9, c9), g4 =>
          have g4' : (if n9 < 2147483648 then some (Value.int (Int32.ofNat n9)) else none) = some v2 := g4
          by_cases hn : n9 < 2147483648
          · rw [if_pos hn, x6] at g4'
            have e7 : (Int32.ofNat n9).toInt = (n9 : Int) := nI_toInt (n := n9) (by omega)
            have e8 : Int32.ofNat n9 = x5 := by
              have := Option.some.inj g4'
              injection this
            rw [← e8, e7] at b9
            exact b9
          · rw [if_neg hn] at g4'
            cases g4'
        | .inr z9, g4 => cases g4
      · cases h
  · cases h
theorem ab_pd_snd {ks : List Nat} {ws : va_W} {rv : List Int} {sv : List (Nat × Nat)} {hh : ab_H} (hG : ab_G cls dA xa ks ws rv sv hh) (hD : va_D (fun q => B ≤ q) ws) {ke : Option Nat} {va : ab_A} {v : Value} {fvs : List Value} {κ i j d ci : Nat} {q : Nat × Nat} (hok : ab_ok rv sv xa v va) (hq : sv[i]? = some q) (hk2 : ws[q.1]? = some (q.2, .inr (ci, fvs))) (hk1 : ks[q.1]? = some κ) (h29 : ∀ k, ks[k]? = some 29 → ke = some k) (hlt : j < fvs.length) (h : ab_pd hh κ i j va = some d) : ab_ph ke ks ws + d ≤ ab_ph ke ks (ws.set q.1 (q.2, .inr (ci, fvs.set j v))) ∧ d % 1024 = 0 := by
  unfold ab_pd at h
  cases hc : (Nat.beq κ (nat_lit 29) && (Nat.beq j (nat_lit 2) || Nat.beq j (nat_lit 4))) with
  | false =>
    rw [ee_cf hc] at h
    have e0 : 0 = d := Option.some.inj h
    subst e0
    refine ⟨?_, rfl⟩
    rw [ab_ph_put (ke := ke) (vv := v) (jj := j) hk2 hk1 ?_]
    · exact Nat.le_refl _
    · rintro ⟨rfl, h9 | h9⟩
      · subst h9; cases hc
      · subst h9; cases hc
  | true =>
    rw [ee_ct hc] at h
    rw [Bool.and_eq_true, Bool.or_eq_true] at hc
    have e29 : κ = 29 := Nat.eq_of_beq_eq_true hc.1
    subst e29
    have hj : j = 2 ∨ j = 4 := hc.2.imp Nat.eq_of_beq_eq_true Nat.eq_of_beq_eq_true
    split at h
    · rename_i a hff
      split at h
      · rename_i pp qq hpp hqq
        cases hd : (decide (pp.2 ≤ qq.1) && decide ((qq.1 - pp.2) % 512 = 0)) with
        | false => rw [ee_cf hd] at h; cases h
        | true =>
          rw [ee_ct hd] at h
          rw [Bool.and_eq_true, decide_eq_true_eq, decide_eq_true_eq] at hd
          have ed : 2 * (qq.1 - pp.2).toNat = d := Option.some.inj h
          obtain ⟨q1, e1, i1, v1, f1, f2, f3, f4, f5⟩ := hG.2.2.2.1 _ (ab_ff_in hff)
          dsimp only at f1 f2 f3 f4 f5
          rw [hq] at f1
          cases f1
          rw [hk2] at f2
          cases f2
          have f3' : some (j : Int) = some i1 := f3
          cases f3'
          have f4' : fvs[((j : Nat) : Int).toNat]? = some v1 := f4
          rw [Int.toNat_natCast] at f4'
          have b1 := ab_lnf_snd hG hD f5 f4' hpp
          have b2 := ab_lnf_snd (vs := fvs.set j v) (j := j) hG hD hok (List.getElem?_set_self hlt) hqq
          have hltw := (List.getElem?_eq_some_iff.mp hk2).1
          rw [h29 _ hk1]
          unfold ab_ph
          dsimp only
          rw [if_pos hk1, if_pos hk1, hk2, List.getElem?_set_self hltw]
          dsimp only
          rw [ab_ln_obj hk2, ab_ln_obj hk2]
          rcases hj with rfl | rfl
          · rw [ab_ln_vs (vs' := fvs.set 2 v) (vs := fvs) (a := 4) (List.getElem?_set_ne (by decide))]
            exact ⟨by omega, by omega⟩
          · rw [ab_ln_vs (vs' := fvs.set 4 v) (vs := fvs) (a := 2) (List.getElem?_set_ne (by decide))]
            exact ⟨by omega, by omega⟩
      · cases h
    · cases h
theorem as_26 (hC : ee_C p s m args meth c D dA xa xt B y) (hs : ee_sc y pc (26, a, b, n) = true) (h : ab_o26 sv0.2.2.1 b n (pc, r) = some L) (k : ∀ S ∈ L, ab_WS cls p l e R s m args below meth c Q D dA xa B rv0 sv0 y S) : ab_WS cls p l e R s m args below meth c Q D dA xa B rv0 sv0 y (pc, r) := by
  unfold ab_o26 at h
  split at h
  · rename_i pc' lo va z st hh r' heq
    cases heq
    cases hz : Nat.beq (Nat.mod z (nat_lit 2)) (nat_lit 0) with
    | false => rw [ee_cf hz] at h; cases h
    | true =>
      rw [ee_ct hz, ee_f_eq] at h
      split at h
      · rename_i κ hκ
        split at h
        · rename_i q hko
          obtain ⟨ci, ts⟩ := q
          cases hci : (Nat.beq ci (Nat.div b (nat_lit 64)) && ab_jf (ee_fk b) hh va) with
          | false => rw [ee_cf hci] at h; cases h
          | true =>
            rw [ee_ct hci, ee_f_eq] at h
            rw [Bool.and_eq_true] at hci
            have e1 : ci = b / 64 := Nat.eq_of_beq_eq_true hci.1
            subst e1
            split at h
            · rename_i t ht
              cases hft : (ab_fits hh t va && ((match ab_ka κ with
                | none => true
                | some _ => false) && sv0.2.2.1 κ)) with
              | false => rw [ee_cf hft] at h; cases h
              | true =>
                rw [ee_ct hft] at h
                rw [Bool.and_eq_true, Bool.and_eq_true] at hft
                obtain ⟨hf1, hf2, hwk⟩ := hft
                have hft : ab_fits hh t va = true ∧ _ := ⟨hf1, hf2⟩
                split at h
                case h_2 => cases h
                rename_i dd hdd
                simp only [ee_f_eq] at h
                cases h
                have k := k _ List.mem_cons_self
                have hka : ab_ka κ = none := by
                  have h9 := hft.2
                  split at h9
                  · assumption
                  · cases h9
                have ht : ts[b % 64]? = some t := by
                  have h9 := ht
                  rw [ee_nth_eq] at h9
                  exact h9
                intro ks ws rv sv H locs ls vs hr0 hs0 hG hP hD hS hl hv
                match vs, hv with
                | v :: vr :: vs, ⟨hokv, hok, hv⟩ =>
                  obtain ⟨q, hq1, rfl⟩ := ab_nnul hz hok
                  rw [ee_nth_eq] at hκ
                  obtain ⟨q', e9, hq2, hk1, hk2⟩ := hG.2.2.1.2 _ κ hκ
                  have hq3 : sv[z / 2]? = some q' := hq2
                  rw [hq1] at hq3
                  cases hq3
                  obtain ⟨a9, e8, hw8, hcell⟩ := hG.2.2.2.2.1.2 _ κ hk1
                  rw [hk2] at hw8
                  cases hw8
                  obtain ⟨fvs, rfl, hlen, hty⟩ := hcell.1 _ _ hko
                  obtain ⟨qx, hqx, hdx, hnx, hxx, -⟩ := ee_sc_spec hs
                  have hx' : (ee_rsq y a 1 b && (decide (b / 64 < ee_cl.length ∧ b % 64 < (ee_cx (b / 64)).2.2) && (!((ee_cx (b / 64)).2.1 (b % 64)).2.2.2 || decide ((ee_yn y).name = "<init>" ∧ ((ee_cx (b / 64)).2.1 (b % 64)).1 = (ee_yn y).cls)))) = true := hxx
                  rw [Bool.and_eq_true, Bool.and_eq_true] at hx'
                  obtain ⟨z1, z2⟩ := of_decide_eq_true hx'.2.1
                  obtain ⟨C9, T9, N9, fs9, ecx, -, -, -, -, -, -, -, -, -, hkind⟩ := ee_cls (ci := b / 64) z1
                  rw [ecx] at z2
                  have hfk : ee_fk b = ee_fk (64 * (b / 64) + b % 64) := by rw [Nat.div_add_mod]
                  have hnf := ab_jf_snd hG hokv hci.2 (by rw [hfk]; exact hkind (b % 64) z2)
                  have hlt : b % 64 < fvs.length := by rw [hlen]; exact (List.getElem?_eq_some_iff.mp ht).1
                  have hqe : q = (q.1, q.2) := rfl
                  have hwl := (List.getElem?_eq_some_iff.mp hk2).1
                  refine sm_26 hC hs hP hD hS hk2 hnf hlt (fun H1 locs1 hP1 hD1 hS1 => ?_)
                  obtain ⟨eph, ed⟩ := ab_pd_snd (ke := sv0.2.2.2.1) (κ := κ) (i := z / 2) (j := b % 64) (d := dd) hG hD hokv hq1 hk2 hk1 hs0.2.1.2.2 hlt hdd
                  have hb0 := hs0.2.2
                  refine W.widen (k := r'.1 - dd / 1024 + (ab_ph sv0.2.2.2.1 ks (ws.set q.1 (q.2, .inr (b / 64, fvs.set (b % 64) v))) / 1024 - sv0.2.2.2.2.2 / 1024)) (n := r'.2 - dd + (ab_ph sv0.2.2.2.1 ks (ws.set q.1 (q.2, .inr (b / 64, fvs.set (b % 64) v))) - sv0.2.2.2.2.2)) (by dsimp only; omega) (by dsimp only; omega) ?_
                  refine k ks _ rv sv H1 locs1 ls vs hr0 (ab_px_set' hs0 hk2 hk1 hwk ab_sm_ob (by omega)) ?_ hP1 hD1 hS1 hl hv
                  have hrd : ∀ qf : Nat × Nat, qf.1 ≠ q.1 → (ws.set q.1 (q.2, .inr (b / 64, fvs.set (b % 64) v)))[qf.1]? = ws[qf.1]? := fun qf hne => List.getElem?_set_ne (fun z9 => hne z9.symm)
                  refine ⟨hG.1, hG.2.1, ⟨hG.2.2.1.1, fun i9 κ9 h9 => ?_⟩, fun f9 h9 => ?_, ab_TW_put hG.2.2.2.2.1 hk1 hko hka hk2 ht (ab_fits_snd hG hokv hft.1), ab_CL_put hG.2.2.2.2.2 hk2 hq1⟩
                  · obtain ⟨q8, e7, w1, w2, w3⟩ := hG.2.2.1.2 i9 κ9 h9
                    by_cases hne : q8.1 = q.1
                    · refine ⟨q8, .inr (b / 64, fvs.set (b % 64) v), w1, w2, ?_⟩
                      rw [hne] at w3 ⊢
                      rw [hk2] at w3
                      have e6 : q.2 = q8.2 := congrArg Prod.fst (Option.some.inj w3)
                      rw [List.getElem?_set_self hwl, e6]
                    · exact ⟨q8, e7, w1, w2, by rw [hrd q8 hne]; exact w3⟩
                  · rcases List.mem_cons.mp h9 with rfl | h9
                    · refine ⟨q, .inr (b / 64, fvs.set (b % 64) v), (b % 64 : Nat), v, hq1, by rw [List.getElem?_set_self hwl], rfl, ?_, hokv⟩
                      show (fvs.set (b % 64) v)[((b % 64 : Nat) : Int).toNat]? = some v
                      rw [Int.toNat_natCast, List.getElem?_set_self hlt]
                    · obtain ⟨hm, hor⟩ := ab_kf_in h9
                      obtain ⟨qf, ef, ii, vf, f1, f2, f3, f4, f5⟩ := hG.2.2.2.1 f9 hm
                      by_cases hne : qf.1 = q.1
                      · have hqf : qf = q := by
                          rw [hne] at f2
                          rw [hk2] at f2
                          have e6 : q.2 = qf.2 := congrArg Prod.fst (Option.some.inj f2)
                          exact Prod.ext hne e6.symm
                        subst hqf
                        rw [hk2] at f2
                        cases f2
                        have hnj : ¬ (f9.2.1.1 = 0 ∧ f9.2.1.2.1 = b % 64) := by
                          rcases hor with h8 | ⟨κ', h7, h8⟩
                          · exact h8
                          · obtain ⟨q7, e7, w1, w2, w3⟩ := hG.2.2.1.2 _ κ' h7
                            rw [f1] at w1
                            cases w1
                            rw [hk1] at w2
                            exact absurd (Option.some.inj w2).symm h8
                        refine ⟨qf, .inr (b / 64, fvs.set (b % 64) v), ii, vf, f1, by rw [List.getElem?_set_self hwl], f3, ?_, f5⟩
                        obtain ⟨i8, ⟨t8, l8⟩, a8⟩ := f9
                        dsimp only at f3 f4 hnj ⊢
                        match t8, f3, f4, hnj with
                        | 0, f3, f4, hnj =>
                          cases f3
                          have f4' : fvs[((l8.1 : Nat) : Int).toNat]? = some vf := f4
                          show (fvs.set (b % 64) v)[((l8.1 : Nat) : Int).toNat]? = some vf
                          rw [Int.toNat_natCast] at f4' ⊢
                          rw [List.getElem?_set_ne (fun z9 => hnj ⟨rfl, z9.symm⟩)]
                          exact f4'
                        | 1, f3, f4, hnj => cases f4
                        | 2, f3, f4, hnj => cases f4
                        | t8 + 3, f3, f4, hnj =>
                          obtain ⟨⟨cA9, n9, g9, he9, -⟩, -⟩ := ab_rd_q2 f4
                          cases he9
                      · exact ⟨qf, ef, ii, vf, f1, by rw [hrd qf hne]; exact f2, f3, f4, f5⟩
            · cases h
        · cases h
      · cases h
  · cases h
end PT
