/-! ===== the steps of two numbers; one more; switches ===== -/
def ab_bin {β : Type} (op : Nat) (h : ab_H) (f g : ab_L) (k : ab_H → ab_L → Option β) : Option β :=
  bif Nat.beq op (nat_lit 10) then ab_add h f g k else bif Nat.beq op (nat_lit 11) then ab_sub h f g k else bif Nat.beq op (nat_lit 12) then ab_mul h f g k else
  match ab_bd h.1 f, ab_bd h.1 g with
  | some p, some q => bif ab_cc f g && (Nat.ble op (nat_lit 18) || decide (0 < q.1)) then ab_exact op h f g k else bif Nat.beq op (nat_lit 13) then ab_bn13 h f g p q k else bif Nat.beq op (nat_lit 14) then ab_bn14 h f g p q k else bif Nat.beq op (nat_lit 15) then ab_any h k else bif Nat.beq op (nat_lit 16) then ab_bn16 h p q k else bif Nat.beq op (nat_lit 17) then ab_bn17 h g p k else bif Nat.beq op (nat_lit 18) then ab_bn18 h g p k else bif Nat.beq op (nat_lit 19) then ab_bn19 h f g p q k else bif Nat.beq op (nat_lit 20) then ab_bn20 h f p q k else none
  | _, _ => none
section BI
variable {cls : Nat → List ab_Cl} {dA : Nat → ClassId} {xa : List Nat} {ks : List Nat} {ws : va_W} {rv : List Int} {sv : List (Nat × Nat)} {h : ab_H} {f g : ab_L} {k : ab_H → ab_L → Option (List ab_S)} {L : List ab_S} {x y : Int32}
theorem ab_bin_snd {op : Nat} (hG : ab_G cls dA xa ks ws rv sv h) (hx : ab_ev rv f = some x.toInt) (hy : ab_ev rv g = some y.toInt) (hk : ab_bin op h f g k = some L) : (19 ≤ op → ¬ y = 0) ∧ ab_gets cls dA xa ks ws rv sv L k (ee_fo op x y).toInt := by
  have pos : 0 < y.toInt → ¬ y = 0 := by
    rintro h9 rfl
    have e9 : (0 : Int32).toInt = 0 := rfl
    omega
  unfold ab_bin at hk
  cases c10 : Nat.beq op (nat_lit 10) with
  | true =>
    rw [ee_ct c10] at hk
    have e9 : op = 10 := Nat.eq_of_beq_eq_true c10
    subst e9
    exact ⟨fun h9 => by omega, ab_add_snd hG hx hy hk⟩
  | false =>
  rw [ee_cf c10] at hk
  cases c11 : Nat.beq op (nat_lit 11) with
  | true =>
    rw [ee_ct c11] at hk
    have e9 : op = 11 := Nat.eq_of_beq_eq_true c11
    subst e9
    exact ⟨fun h9 => by omega, ab_sub_snd hG hx hy hk⟩
  | false =>
  rw [ee_cf c11] at hk
  cases c12 : Nat.beq op (nat_lit 12) with
  | true =>
    rw [ee_ct c12] at hk
    have e9 : op = 12 := Nat.eq_of_beq_eq_true c12
    subst e9
    exact ⟨fun h9 => by omega, ab_mul_snd hG hx hy hk⟩
  | false =>
  rw [ee_cf c12] at hk
  split at hk
  · rename_i p q hp hq
    have bp := ab_bd_in hG.1 hp hx
    have bq := ab_bd_in hG.1 hq hy
    cases hc : (ab_cc f g && (Nat.ble op (nat_lit 18) || decide (0 < q.1))) with
    | true =>
      rw [ee_ct hc] at hk
      rw [Bool.and_eq_true, Bool.or_eq_true, decide_eq_true_eq] at hc
      refine ⟨fun h9 => ?_, ab_exact_snd hG hx hy hc.1 hk⟩
      rcases hc.2 with h8 | h8
      · have h7 : op ≤ 18 := Nat.le_of_ble_eq_true h8
        omega
      · exact pos (by omega)
    | false =>
    rw [ee_cf hc] at hk
    cases c13 : Nat.beq op (nat_lit 13) with
    | true =>
      rw [ee_ct c13] at hk
      have e9 : op = 13 := Nat.eq_of_beq_eq_true c13
      subst e9
      exact ⟨fun h9 => by omega, ab_bn13_snd hG hx hy bp bq hk⟩
    | false =>
    rw [ee_cf c13] at hk
    cases c14 : Nat.beq op (nat_lit 14) with
    | true =>
      rw [ee_ct c14] at hk
      have e9 : op = 14 := Nat.eq_of_beq_eq_true c14
      subst e9
      exact ⟨fun h9 => by omega, ab_bn14_snd hG hx hy bp bq hk⟩
    | false =>
    rw [ee_cf c14] at hk
    cases c15 : Nat.beq op (nat_lit 15) with
    | true =>
      rw [ee_ct c15] at hk
      have e9 : op = 15 := Nat.eq_of_beq_eq_true c15
      subst e9
      exact ⟨fun h9 => by omega, ab_gets_any hG hk⟩
    | false =>
    rw [ee_cf c15] at hk
    cases c16 : Nat.beq op (nat_lit 16) with
    | true =>
      rw [ee_ct c16] at hk
      have e9 : op = 16 := Nat.eq_of_beq_eq_true c16
      subst e9
      exact ⟨fun h9 => by omega, ab_bn16_snd hG bp bq hk⟩
    | false =>
    rw [ee_cf c16] at hk
    cases c17 : Nat.beq op (nat_lit 17) with
    | true =>
      rw [ee_ct c17] at hk
      have e9 : op = 17 := Nat.eq_of_beq_eq_true c17
      subst e9
      exact ⟨fun h9 => by omega, ab_bn17_snd hG hy bp hk⟩
    | false =>
    rw [ee_cf c17] at hk
    cases c18 : Nat.beq op (nat_lit 18) with
    | true =>
      rw [ee_ct c18] at hk
      have e9 : op = 18 := Nat.eq_of_beq_eq_true c18
      subst e9
      exact ⟨fun h9 => by omega, ab_bn18_snd hG hy bp hk⟩
    | false =>
    rw [ee_cf c18] at hk
    cases c19 : Nat.beq op (nat_lit 19) with
    | true =>
      rw [ee_ct c19] at hk
      have e9 : op = 19 := Nat.eq_of_beq_eq_true c19
      subst e9
      obtain ⟨h1, h2⟩ := ab_bn19_snd hG hx hy bp bq hk
      exact ⟨fun _ => pos h1, h2⟩
    | false =>
    rw [ee_cf c19] at hk
    cases c20 : Nat.beq op (nat_lit 20) with
    | true =>
      rw [ee_ct c20] at hk
      have e9 : op = 20 := Nat.eq_of_beq_eq_true c20
      subst e9
      obtain ⟨h1, h2⟩ := ab_bn20_snd hG hx bp bq hk
      exact ⟨fun _ => pos h1, h2⟩
    | false => rw [ee_cf c20] at hk; cases hk
  · cases hk
/-- a char of an int -/
theorem ab_chr (x : Int32) : ((x.toUInt32 % 65536).toInt32).toInt = ((x.toUInt32.toNat % 65536 : Nat) : Int) := by
  rw [← Int32.toInt_toBitVec, UInt32.toBitVec_toInt32, BitVec.toInt_eq_toNat_bmod]
  have e1 : (x.toUInt32 % 65536).toBitVec.toNat = x.toUInt32.toNat % 65536 := by
    show (x.toUInt32 % 65536).toNat = _
    rw [UInt32.toNat_mod]
    rfl
  rw [e1]
  exact ab_bm (by omega) (by omega)
end BI
def ab_o10 (op n : Nat) : ab_S → Option (List ab_S)
  | (pc, lo, .inl g :: .inl f :: st, h, r) => ab_bin op h f g fun h' w => some [(Nat.add pc n, lo, .inl w :: st, h', r)]
  | _ => none
def ab_o9 (a b n : Nat) : ab_S → Option (List ab_S)
  | (pc, lo, st, h, r) => match ee_nth lo a with
    | some (.inl f) => ab_g ((b : Int) - 2147483648) fun d => ab_add h f (nat_lit 0, 0, d) fun h' w => (match ab_sl lo a (.inl w) with
      | some lo' => some [(Nat.add pc n, lo', st, h', r)]
      | none => none)
    | _ => none
def ab_o69 (n : Nat) : ab_S → Option (List ab_S)
  | (pc, lo, v :: w :: st, h, r) => bif ab_isl v && ab_isl w then ab_fr h (-1) 1 fun h' f => some [(Nat.add pc n, lo, .inl f :: st, h', r)] else none
  | _ => none
def ab_o71 (n : Nat) : ab_S → Option (List ab_S)
  | (pc, lo, v :: st, h, r) => bif ab_isl v then ab_any h fun h' f => some [(Nat.add pc n, lo, .inl f :: st, h', r)] else none
  | _ => none
def ab_o75 (n : Nat) : ab_S → Option (List ab_S)
  | (pc, lo, .inl f :: st, h, r) => (match ab_bd h.1 f with
    | some q => bif decide (0 ≤ q.1) && decide (q.2 ≤ 65535) then some [(Nat.add pc n, lo, .inl f :: st, h, r)] else ab_fr h 0 65535 fun h' w => some [(Nat.add pc n, lo, .inl w :: st, h', r)]
    | none => none)
  | _ => none
section BI2
variable {cls : Nat → List ab_Cl} {p : Program} {l : Launch} {e : Env} {R : Room} {s : State} {m : MethodId} {args : Array Value} {below : List Frame} {meth : Method} {c : Code} {Q : State → Prop} {D : va_G} {dA : Nat → ClassId} {xa : List Nat} {xt : ee_X} {B : Nat} {rv0 : List Int} {sv0 : ab_B} {y : Nat}
variable {pc a b n : Nat} {r : List ab_A × List ab_A × ab_H × Nat × Nat} {L : List ab_S}
theorem as_10 {op : Nat} (h10 : 10 ≤ op) (h20 : op ≤ 20) (hC : ee_C p s m args meth c D dA xa xt B y) (hs : ee_sc y pc (op, a, b, n) = true) (h : ab_o10 op n (pc, r) = some L) (k : ∀ S ∈ L, ab_WS cls p l e R s m args below meth c Q D dA xa B rv0 sv0 y S) : ab_WS cls p l e R s m args below meth c Q D dA xa B rv0 sv0 y (pc, r) := by
  unfold ab_o10 at h
  split at h
  · rename_i pc' lo g f st hh r' heq
    cases heq
    intro ks ws rv sv H locs ls vs hr0 hs0 hG hP hD hS hl hv
    match vs, hv with
    | v1 :: v2 :: vs, ⟨⟨yv, e1, hy1⟩, ⟨xv, e2, hx1⟩, hv⟩ =>
      subst e1; subst e2
      obtain ⟨hnz, h', w9, rv', p1, hG', hw9, hk9⟩ := ab_bin_snd hG hx1 hy1 h
      cases hk9
      exact sm_10 h10 h20 hC hs hnz (k _ List.mem_cons_self ks ws rv' sv H locs ls _ (hr0.trans p1) hs0 hG' hP hD hS (ab_lo_mono p1 (List.prefix_refl sv) hl) ⟨⟨_, rfl, hw9⟩, ab_a2_mono (fun _ _ => ab_ok_mono p1 (List.prefix_refl sv)) hv⟩)
  · cases h
theorem as_69 (hC : ee_C p s m args meth c D dA xa xt B y) (hs : ee_sc y pc (69, a, b, n) = true) (h : ab_o69 n (pc, r) = some L) (k : ∀ S ∈ L, ab_WS cls p l e R s m args below meth c Q D dA xa B rv0 sv0 y S) : ab_WS cls p l e R s m args below meth c Q D dA xa B rv0 sv0 y (pc, r) := by
  unfold ab_o69 at h
  split at h
  · rename_i pc' lo v w st hh r' heq
    cases heq
    cases hc : (ab_isl v && ab_isl w) with
    | false => rw [ee_cf hc] at h; cases h
    | true =>
      rw [ee_ct hc] at h
      rw [Bool.and_eq_true] at hc
      intro ks ws rv sv H locs ls vs hr0 hs0 hG hP hD hS hl hv
      match v, w, hc, vs, hv with
      | .inr (.inr 1), .inr (.inr 1), _, v1 :: v2 :: vs, ⟨⟨yv, e1⟩, ⟨xv, e2⟩, hv⟩ =>
        subst e1; subst e2
        refine sm_69 hC hs (fun z z1 z2 => ?_)
        obtain ⟨h', w9, rv', p1, hG', hw9, hk9⟩ := ab_gets_fr hG h z1 z2
        cases hk9
        exact k _ List.mem_cons_self ks ws rv' sv H locs ls _ (hr0.trans p1) hs0 hG' hP hD hS (ab_lo_mono p1 (List.prefix_refl sv) hl) ⟨⟨z, rfl, hw9⟩, ab_a2_mono (fun _ _ => ab_ok_mono p1 (List.prefix_refl sv)) hv⟩
  · cases h
theorem as_71 (hC : ee_C p s m args meth c D dA xa xt B y) (hs : ee_sc y pc (71, a, b, n) = true) (h : ab_o71 n (pc, r) = some L) (k : ∀ S ∈ L, ab_WS cls p l e R s m args below meth c Q D dA xa B rv0 sv0 y S) : ab_WS cls p l e R s m args below meth c Q D dA xa B rv0 sv0 y (pc, r) := by
  unfold ab_o71 at h
  split at h
  · rename_i pc' lo v st hh r' heq
    cases heq
    cases hc : ab_isl v with
    | false => rw [ee_cf hc] at h; cases h
    | true =>
      rw [ee_ct hc] at h
      intro ks ws rv sv H locs ls vs hr0 hs0 hG hP hD hS hl hv
      match v, hc, vs, hv with
      | .inr (.inr 1), _, v1 :: vs, ⟨⟨yv, e1⟩, hv⟩ =>
        subst e1
        refine sm_71 hC hs (fun z => ?_)
        obtain ⟨h', w9, rv', p1, hG', hw9, hk9⟩ := ab_gets_any (x := z) hG h
        cases hk9
        exact k _ List.mem_cons_self ks ws rv' sv H locs ls _ (hr0.trans p1) hs0 hG' hP hD hS (ab_lo_mono p1 (List.prefix_refl sv) hl) ⟨⟨z, rfl, hw9⟩, ab_a2_mono (fun _ _ => ab_ok_mono p1 (List.prefix_refl sv)) hv⟩
  · cases h
theorem as_75 (hC : ee_C p s m args meth c D dA xa xt B y) (hs : ee_sc y pc (75, a, b, n) = true) (h : ab_o75 n (pc, r) = some L) (k : ∀ S ∈ L, ab_WS cls p l e R s m args below meth c Q D dA xa B rv0 sv0 y S) : ab_WS cls p l e R s m args below meth c Q D dA xa B rv0 sv0 y (pc, r) := by
  unfold ab_o75 at h
  split at h
  · rename_i pc' lo f st hh r' heq
    cases heq
    split at h
    · rename_i q hq
      intro ks ws rv sv H locs ls vs hr0 hs0 hG hP hD hS hl hv
      match vs, hv with
      | v1 :: vs, ⟨⟨xv, e1, hx1⟩, hv⟩ =>
        subst e1
        have bq := ab_bd_in hG.1 hq hx1
        have ec := ab_chr xv
        refine sm_75 hC hs ?_
        cases hc : (decide (0 ≤ q.1) && decide (q.2 ≤ 65535)) with
        | true =>
          rw [ee_ct hc] at h
          cases h
          rw [Bool.and_eq_true, decide_eq_true_eq, decide_eq_true_eq] at hc
          obtain ⟨a9, ha, ea, ta⟩ := ab_nat_of xv (by omega)
          have eu : xv.toUInt32.toNat = a9 := by
            rw [ea]
            show a9 % 4294967296 = a9
            omega
          have e3 : ((xv.toUInt32 % 65536).toInt32).toInt = xv.toInt := by rw [ec, eu, ta]; omega
          exact k _ List.mem_cons_self ks ws rv sv H locs ls _ hr0 hs0 hG hP hD hS hl ⟨⟨_, rfl, by rw [e3]; exact hx1⟩, hv⟩
        | false =>
          rw [ee_cf hc] at h
          obtain ⟨h', w9, rv', p1, hG', hw9, hk9⟩ := ab_gets_fr (x := ((xv.toUInt32 % 65536).toInt32).toInt) hG h (by omega) (by omega)
          cases hk9
          exact k _ List.mem_cons_self ks ws rv' sv H locs ls _ (hr0.trans p1) hs0 hG' hP hD hS (ab_lo_mono p1 (List.prefix_refl sv) hl) ⟨⟨_, rfl, hw9⟩, ab_a2_mono (fun _ _ => ab_ok_mono p1 (List.prefix_refl sv)) hv⟩
    · cases h
  · cases h
theorem as_9 (hC : ee_C p s m args meth c D dA xa xt B y) (hs : ee_sc y pc (9, a, b, n) = true) (h : ab_o9 a b n (pc, r) = some L) (k : ∀ S ∈ L, ab_WS cls p l e R s m args below meth c Q D dA xa B rv0 sv0 y S) : ab_WS cls p l e R s m args below meth c Q D dA xa B rv0 sv0 y (pc, r) := by
  obtain ⟨lo, st, hh, r'⟩ := r
  unfold ab_o9 at h
  dsimp only at h
  split at h
  · rename_i f hf
    rw [ab_g_eq] at h
    obtain ⟨q, hq, hd, hn, hx, -⟩ := ee_sc_spec hs
    obtain ⟨he, hb, -⟩ := id hC
    have hbl : b < 4294967296 := of_decide_eq_true (show decide (b < 4294967296) = true from hx)
    intro ks ws rv sv H locs ls vs hr0 hs0 hG hP hD hS hl hv
    obtain ⟨hlen, lv0, hlv0, hall⟩ := id hl
    have hf' := hf
    rw [ee_nth_eq] at hf'
    rcases hall a _ hf' with hbad | ⟨v, hmem, xv, rfl, hx2⟩
    · cases hbad
    · obtain ⟨kk, hkk⟩ := List.getElem?_of_mem hmem
      have ex : (ee_x b).toInt = (b : Int) - 2147483648 := by
        have h8 := ee_zi (ee_x b)
        rw [ee_zx hbl] at h8
        omega
      have hy9 : ab_ev rv (0, 0, (b : Int) - 2147483648) = some (ee_x b).toInt := by rw [ex]; exact ab_ev0 rfl
      obtain ⟨h', w9, rv', p1, hG', hw9, hk9⟩ := ab_add_snd hG hx2 hy9 h
      dsimp only at hk9
      split at hk9
      · rename_i lo' hu
        cases hk9
        cases (show some (Instr.iinc a ((b : Int) - 2147483648), 3) = some q from hq)
        cases hn
        obtain ⟨g1, rfl, g2⟩ := ab_sl_spec hu
        refine lv_iinc (v := xv + ee_x b) he hb hd hlv0 hkk rfl (by have h9 : lo.length = ee_ml y := hlen; omega) rfl (fun ls' h9 => k _ List.mem_cons_self ks ws rv' sv H locs ls' vs (hr0.trans p1) hs0 hG' hP hD hS ?_ (ab_a2_mono (fun _ _ => ab_ok_mono p1 (List.prefix_refl sv)) hv))
        refine ⟨by rw [List.length_set]; exact hlen, _, h9, fun j bb hbb => ?_⟩
        by_cases hj : j = a
        · subst hj
          rw [List.getElem?_set_self g1] at hbb
          cases hbb
          exact Or.inr ⟨_, List.mem_cons_self, ⟨_, rfl, hw9⟩⟩
        · rw [List.getElem?_set_ne (fun z => hj z.symm)] at hbb
          rcases hall j bb hbb with h | ⟨w2, h4, h5⟩
          · exact Or.inl h
          · refine Or.inr ⟨w2, List.mem_cons_of_mem _ (List.mem_filter.mpr ⟨h4, ?_⟩), ab_ok_mono p1 (List.prefix_refl sv) h5⟩
            by_cases hj1 : j + 1 = a
            · have hc : w2.category = 1 := ab_ok_notl (g2 j bb hj1 hbb) h5
              simp [hj, hc]
            · simp [hj, hj1]
      · cases hk9
  · cases h
end BI2
