/-! ===== new rows of a known length ===== -/
/-- the length of a row in a field is at most .. -/
def ab_lub (h : ab_H) (i j top : Nat) : Nat := match ab_ff h.2.2.2.1 i (nat_lit 0, j, 0, 0) with
  | some (.inr (.inl (z + 1))) => bif Nat.beq (Nat.mod z (nat_lit 2)) (nat_lit 0) then (match ab_ff h.2.2.2.1 (Nat.div z (nat_lit 2)) (nat_lit 2, nat_lit 0, 0, 0) with
    | some (.inl g) => (match ab_bd h.1 g with
      | some p => p.2.toNat
      | none => top)
    | _ => top) else top
  | _ => top
def ab_ix29 : List Nat → Nat → Option Nat
  | [], _ => none
  | κ :: l, i => bif Nat.beq κ (nat_lit 29) then some i else ab_ix29 l (Nat.succ i)
/-- what the Explorer's rows cost at most -/
def ab_phb (h : ab_H) : Nat := match ab_ix29 h.2.2.1 (nat_lit 0) with
  | some i => Nat.add (Nat.mul (nat_lit 2) (ab_lub h i (nat_lit 2) (nat_lit 1048576))) (Nat.mul (nat_lit 2) (ab_lub h i (nat_lit 4) (nat_lit 2097152)))
  | none => nat_lit 6291456
def ab_mkc (cC cS κ t : Nat) (mx : Int) (h : ab_H) (p : Int × Int) (ce sl : Nat) (dv : ab_A) : Bool := match ab_ka κ, ab_ko κ with
  | some q, none => (decide (0 ≤ p.1) && (decide (p.2 ≤ mx) && (decide (q.2.1 ≤ p.1) && decide (p.2 ≤ q.2.2)))) && ((Nat.beq q.1 t && (ab_nc κ && (Nat.beq t (nat_lit 1) || ab_fits h (ab_ke κ (nat_lit 0)) dv))) && (Nat.ble (Nat.succ ce) cC && Nat.ble (Nat.add (Nat.add sl p.2.toNat) (ab_phb h)) (Nat.add cS (nat_lit 6291456))))
  | _, _ => false
/-- a new row of ints: all its places are 0 -/
def ab_mz (z : Bool) (i : Nat) (f : ab_L) (fs : List ab_F) : List ab_F := bif z then (i, (nat_lit 7, f), .inl (nat_lit 0, 0, 0)) :: fs else fs
def ab_mko (κ n : Nat) (z : Bool) (f : ab_L) (hi : Nat) : ab_S → Option (List ab_S)
  | (pc, lo, st, h, ce, sl) => ee_f (ee_len h.2.2.1) fun i => ee_f (Nat.add sl hi) fun sl' => ee_f (Nat.succ ce) fun ce' => some [(Nat.add pc n, lo, .inr (.inl (Nat.succ (Nat.mul (nat_lit 2) i))) :: st, (h.1, h.2.1, ab_snoc h.2.2.1 κ, (i, (nat_lit 2, nat_lit 0, 0, 0), .inl f) :: ab_mz z i f h.2.2.2.1, h.2.2.2.2), ce', sl')]
def ab_o36 (cC cS κ a n : Nat) : ab_S → Option (List ab_S)
  | (pc, lo, .inl f :: st, h, ce, sl) => (match ab_bd h.1 f with
    | some p => bif ab_mkc cC cS κ a 67108864 h p ce sl (.inl (nat_lit 0, 0, 0)) then ab_mko κ n (Nat.beq a (nat_lit 0)) f p.2.toNat (pc, lo, st, h, ce, sl) else none
    | none => none)
  | _ => none
def ab_o37 (cC cS κ b n : Nat) : ab_S → Option (List ab_S)
  | (pc, lo, .inl f :: st, h, ce, sl) => (match ab_bd h.1 f with
    | some p => bif ab_mkc cC cS κ b 1000000 h p ce sl (.inr (.inl (nat_lit 0))) then ab_mko κ n false f p.2.toNat (pc, lo, st, h, ce, sl) else none
    | none => none)
  | _ => none
section N2
variable {cls : Nat → List ab_Cl} {p : Program} {l : Launch} {e : Env} {R : Room} {s : State} {m : MethodId} {args : Array Value} {below : List Frame} {meth : Method} {c : Code} {Q : State → Prop} {D : va_G} {dA : Nat → ClassId} {xa : List Nat} {xt : ee_X} {B : Nat} {rv0 : List Int} {sv0 : ab_B} {y : Nat}
variable {pc a b n cC cS : Nat} {r : List ab_A × List ab_A × ab_H × Nat × Nat} {L : List ab_S}
theorem ab_mkc_spec {κ t : Nat} {mx : Int} {h : ab_H} {p : Int × Int} {ce sl : Nat} {dv : ab_A} (hc : ab_mkc cC cS κ t mx h p ce sl dv = true) : ∃ q : Nat × Int × Int, ab_ka κ = some q ∧ ab_ko κ = none ∧ 0 ≤ p.1 ∧ p.2 ≤ mx ∧ q.2.1 ≤ p.1 ∧ p.2 ≤ q.2.2 ∧ q.1 = t ∧ ab_nc κ = true ∧ (t = 1 ∨ ab_fits h (ab_ke κ 0) dv = true) ∧ ce + 1 ≤ cC ∧ sl + p.2.toNat + ab_phb h ≤ cS + 6291456 := by
  unfold ab_mkc at hc
  split at hc
  · rename_i q hka hko
    simp only [Bool.and_eq_true, Bool.or_eq_true, decide_eq_true_eq] at hc
    obtain ⟨⟨c2, c3, c4, c5⟩, ⟨c6, c7, c8⟩, c9, c10⟩ := hc
    refine ⟨q, hka, hko, c2, c3, c4, c5, Nat.eq_of_beq_eq_true c6, c7, ?_, Nat.le_of_ble_eq_true c9, Nat.le_of_ble_eq_true c10⟩
    rcases c8 with c8 | c8
    · exact Or.inl (Nat.eq_of_beq_eq_true c8)
    · exact Or.inr c8
  · cases hc
theorem ab_ix29_in : ∀ {l : List Nat} {i j : Nat}, ab_ix29 l i = some j → i ≤ j ∧ l[j - i]? = some 29
  | [], i, j, h => by cases h
  | κ :: l, i, j, h => by
    unfold ab_ix29 at h
    cases hb : Nat.beq κ 29 with
    | true =>
      rw [ee_ct hb] at h
      cases h
      have e9 : κ = 29 := Nat.eq_of_beq_eq_true hb
      refine ⟨Nat.le_refl _, ?_⟩
      rw [Nat.sub_self, e9]
      rfl
    | false =>
      rw [ee_cf hb] at h
      obtain ⟨h1, h2⟩ := ab_ix29_in h
      have h1' : i + 1 ≤ j := h1
      have e9 : j - i = (j - Nat.succ i) + 1 := by
        show j - i = (j - (i + 1)) + 1
        omega
      refine ⟨by omega, ?_⟩
      rw [e9]
      exact h2
/-- the length of a row in a field -/
theorem ab_lub_snd {ks : List Nat} {ws : va_W} {rv : List Int} {sv : List (Nat × Nat)} {hh : ab_H} (hG : ab_G cls dA xa ks ws rv sv hh) (hD : va_D (fun q => B ≤ q) ws) {i j top kk aa ci : Nat} {vs : List Value} (h1 : sv[i]? = some (kk, aa)) (h2 : ws[kk]? = some (aa, .inr (ci, vs))) (ht : ab_ln ws vs j ≤ top) : ab_ln ws vs j ≤ ab_lub hh i j top := by
  unfold ab_lub
  split
  · rename_i z hz
    cases hb : Nat.beq (Nat.mod z (nat_lit 2)) (nat_lit 0) with
    | false => rw [ee_cf rfl]; exact ht
    | true =>
      rw [ee_ct rfl]
      split
      · rename_i g hg
        split
        · rename_i p hp
          obtain ⟨q1, e1, i1, v1, f1, f2, f3, f4, f5⟩ := hG.2.2.2.1 _ (ab_ff_in hz)
          dsimp only at f1 f2 f3 f4 f5
          rw [h1] at f1
          cases f1
          rw [h2] at f2
          cases f2
          have f3' : some (j : Int) = some i1 := f3
          cases f3'
          have f4' : vs[((j : Nat) : Int).toNat]? = some v1 := f4
          rw [Int.toNat_natCast] at f4'
          obtain ⟨q2, e2, i2, v2, g1, g2, g3, g4, g5⟩ := hG.2.2.2.1 _ (ab_ff_in hg)
          dsimp only at g1 g2 g3 g4 g5
          obtain ⟨q3, w1, w2⟩ := ab_nnul hb f5
          have w1' : sv[z / 2]? = some q3 := w1
          have g1' : sv[z / 2]? = some q2 := g1
          rw [w1'] at g1'
          cases g1'
          have har : ab_ar ws vs j = some (q2.2, e2) := by
            unfold ab_ar
            rw [f4', w2]
            dsimp only
            cases hf : ws.find? (fun z => z.1 == q2.2) with
            | none =>
              have h6 := List.find?_eq_none.mp hf (q2.2, e2) (List.mem_of_getElem? g2)
              exact absurd (by simp) h6
            | some q9 =>
              have h7 := List.find?_some hf
              have h8 : q9.1 = q2.2 := by simpa using h7
              obtain ⟨k7, hk7⟩ := List.getElem?_of_mem (List.mem_of_find?_eq_some hf)
              have hkk : k7 = q2.1 := hD.1 k7 q2.1 q9 _ hk7 g2 h8
              subst hkk
              rw [hk7] at g2
              rw [← Option.some.inj g2]
          unfold ab_ln
          rw [har]
          obtain ⟨x5, x6, x7⟩ := g5
          have b9 := ab_bd_in hG.1 hp x7
          match e2, g4 with
          | .inl (cA, n9, c9), g4 =>
            have g4' : (if n9 < 2147483648 then some (Value.int (Int32.ofNat n9)) else none) = some v2 := g4
            by_cases hn : n9 < 2147483648
            · rw [if_pos hn, x6] at g4'
              have e7 : (Int32.ofNat n9).toInt = (n9 : Int) := nI_toInt (n := n9) (by omega)
              have e8 : Int32.ofNat n9 = x5 := by
                have := Option.some.inj g4'
                injection this
              rw [← e8, e7] at b9
              dsimp only
              omega
            · rw [if_neg hn] at g4'
              cases g4'
          | .inr _, g4 => exact Nat.zero_le _
        · exact ht
      · exact ht
  · exact ht
theorem ab_phb_snd {ks : List Nat} {ws : va_W} {rv : List Int} {sv : List (Nat × Nat)} {hh : ab_H} (hG : ab_G cls dA xa ks ws rv sv hh) (hD : va_D (fun q => B ≤ q) ws) (h29 : ∀ k, ks[k]? = some 29 → sv0.2.2.2.1 = some k) : ab_ph sv0.2.2.2.1 ks ws ≤ ab_phb hh := by
  unfold ab_phb
  split
  · rename_i i hi
    obtain ⟨-, h2⟩ := ab_ix29_in hi
    rw [Nat.sub_zero] at h2
    obtain ⟨q, e9, w1, w2, w3⟩ := hG.2.2.1.2 i 29 h2
    rw [h29 _ w2]
    obtain ⟨a8, e8, y1, y2⟩ := hG.2.2.2.2.1.2 _ 29 w2
    rw [w3] at y1
    cases y1
    obtain ⟨ts, t1, t2, t3⟩ := ab_ko29
    obtain ⟨vs, rfl, v1, v2⟩ := y2.1 _ _ t1
    unfold ab_ph
    dsimp only
    rw [if_pos w2, w3]
    dsimp only
    obtain ⟨x2, y2', z2⟩ := v2 2 _ t2
    obtain ⟨x4, y4, z4⟩ := v2 4 _ t3
    obtain ⟨k2, a2, e2, g1, g2, g3, g4⟩ := ab_ar_typed (κ := 30) hG.2.2.2.2.1 hD y2' z2 rfl rfl
    obtain ⟨k4, a4, e4, f1, f2, f3, f4⟩ := ab_ar_typed (κ := 31) hG.2.2.2.2.1 hD y4 z4 rfl rfl
    have b2 : ab_ln ws vs 2 ≤ 1048576 := by
      unfold ab_ln
      rw [g4]
      rcases g3.2.1 0 0 1048576 rfl with ⟨-, n9, f9, rfl, -, h6, -⟩ | ⟨h9, -⟩ | ⟨h9, -⟩
      · dsimp only; omega
      · cases h9
      · omega
    have b4 : ab_ln ws vs 4 ≤ 2097152 := by
      unfold ab_ln
      rw [f4]
      rcases f3.2.1 0 0 2097152 rfl with ⟨-, n9, f9, rfl, -, h6, -⟩ | ⟨h9, -⟩ | ⟨h9, -⟩
      · dsimp only; omega
      · cases h9
      · omega
    have c2 := ab_lub_snd (j := 2) hG hD w1 w3 b2
    have c4 := ab_lub_snd (j := 4) hG hD w1 w3 b4
    exact Nat.add_le_add (Nat.mul_le_mul_left 2 c2) (Nat.mul_le_mul_left 2 c4)
  · exact ab_ph_le hG.2.2.2.2.1 hD
theorem ab_nc37 {κ : Nat} (h : ab_nc κ = true) : Nat.beq κ 37 = false := by
  cases h9 : Nat.beq κ 37 with
  | false => rfl
  | true =>
    have e9 : κ = 37 := Nat.eq_of_beq_eq_true h9
    subst e9
    cases (show ab_nc 37 = true from h)
/-- onward with the new row -/
theorem ab_mko_on {κ N hi : Nat} {z : Bool} {f : ab_L} {lo st : List ab_A} {hh : ab_H} {ce sl : Nat} (hnc : ∀ κ, ab_nc κ = true → cls κ = []) (hcok : ab_cok2 cls) (hn : ab_nc κ = true) (hN : N ≤ hi) (hN31 : N < 2147483648) {LL : List ab_S} (h : ab_mko κ n z f hi (pc, lo, st, hh, ce, sl) = some LL) (k : ∀ S ∈ LL, ab_WS cls p l e R s m args below meth c Q D dA xa B rv0 sv0 y S)
    {ks : List Nat} {ws : va_W} {rv : List Int} {sv : List (Nat × Nat)} {H1 : Heap} {locs : List Loc} {ls : Array Slot} {vs : List Value} {qa : Nat} {cA : ClassId} {ct9 : (Nat → Int32) ⊕ ((Nat → Int64) ⊕ ((Nat → UInt32) ⊕ ((Nat → UInt64) ⊕ (Nat → Option Nat))))} (hf : ab_ev rv f = some (N : Int)) (hr0 : rv0 <+: rv) (hs0 : ab_px sv0 ks ws sv) (hD : va_D (fun q => B ≤ q) ws) (hG : ab_G cls dA xa ks ws rv sv hh) (hz : z = true → ct9 = .inl (fun _ => 0)) (hcell : ab_cell dA ks (ws.map (·.1)) κ (.inl (cA, N, ct9)))
    (hP1 : va_P D ee_cl (ws ++ [(qa, .inl (cA, N, ct9))]) H1) (hD1 : va_D (fun q => B ≤ q) (ws ++ [(qa, .inl (cA, N, ct9))])) (hS1 : va_S (fun q => B ≤ q) s.heap H1 locs) (hl : ab_lo rv sv xa ls (ee_ml y) lo) (hv : ab_a2 (ab_ok rv sv xa) vs st) :
    W p l e R s m args below meth c H1 locs (ce + (ab_ph sv0.2.2.2.1 ks ws / 1024 - sv0.2.2.2.2.2 / 1024) + 1) (sl + (ab_ph sv0.2.2.2.1 ks ws - sv0.2.2.2.2.2) + N) Q (F0 m (pc + n) ls (.ref qa :: vs)) := by
  unfold ab_mko at h
  simp only [ee_f_eq, ee_len_eq] at h
  cases h
  have k := k _ List.mem_cons_self
  have hG2 := ab_G_mk (qa := qa) hG hcok (hnc κ hn) hcell
  have p2 : sv <+: sv ++ [(ws.length, qa)] := List.prefix_append sv _
  have hsl : sv.length = hh.2.2.1.length := hG.2.2.1.1
  have hnm : (sv ++ [(ws.length, qa)])[hh.2.2.1.length]? = some (ws.length, qa) := by rw [← hsl]; simp
  have hn29 : κ ≠ 29 := by
    rintro rfl
    cases (show ab_nc 29 = true from hn)
  have k9 := k (ks ++ [κ]) _ rv (sv ++ [(ws.length, qa)]) H1 locs ls (.ref qa :: vs) hr0 (ab_px_new hs0 p2 hn29 (ab_ph_new hG.2.2.2.2.1 hD hn29)) (ab_G_adf (h := (hh.1, hh.2.1, ab_snoc hh.2.2.1 κ, ab_mz z hh.2.2.1.length f hh.2.2.2.1, hh.2.2.2.2)) ?_ (f := (hh.2.2.1.length, (2, 0, 0, 0), .inl f)) ?_) hP1 hD1 hS1 (ab_lo_mono (List.prefix_refl rv) p2 hl) ⟨?_, ab_a2_mono (fun _ _ => ab_ok_mono (List.prefix_refl rv) p2) hv⟩
  · dsimp only at k9
    rw [ab_ph_new (ke := sv0.2.2.2.1) hG.2.2.2.2.1 hD hn29] at k9
    rw [Nat.add_right_comm ce, Nat.add_right_comm sl]
    exact W.widen (Nat.le_refl _) (Nat.add_le_add_right (Nat.add_le_add_left hN sl) _) k9
  · cases hzz : z with
    | false => exact hG2
    | true =>
      refine ab_G_adf hG2 (f := (hh.2.2.1.length, (7, f), .inl (0, 0, 0))) ?_
      refine ⟨(ws.length, qa), .inl (cA, N, ct9), (N : Int), .int 0, hnm, by simp, ?_, ab_rd_q (t := 4) ?_, ⟨0, rfl, rfl⟩⟩
      · exact hf
      · rw [hz hzz]
        exact ⟨cA, N, fun _ => 0, rfl, fun l9 hl9 => ⟨by omega, rfl⟩⟩
  · refine ⟨(ws.length, qa), .inl (cA, N, ct9), 0, .int (Int32.ofNat N), hnm, by simp, rfl, ?_, ⟨_, rfl, ?_⟩⟩
    · show (if N < 2147483648 then some (Value.int (Int32.ofNat N)) else none) = _
      rw [if_pos hN31]
    · have e7 : (Int32.ofNat N).toInt = (N : Int) := nI_toInt (n := N) (by omega)
      rw [e7]
      exact hf
  · refine Or.inl ⟨(ws.length, qa), ?_, rfl⟩
    have e3 : Nat.mul 2 hh.2.2.1.length / 2 = hh.2.2.1.length := by
      show (2 * hh.2.2.1.length) / 2 = _
      omega
    show (sv ++ [(ws.length, qa)])[Nat.mul 2 hh.2.2.1.length / 2]? = _
    rw [e3]
    exact hnm
theorem as_36 {κ : Nat} (ha : a = 0 ∨ a = 1 ∨ a = 2) (hcap : cC + (6144 - sv0.2.2.2.2.2 / 1024) ≤ R.cells ∧ cS + (6291456 - sv0.2.2.2.2.2) ≤ R.slots) (hnc : ∀ κ, ab_nc κ = true → cls κ = []) (hcok : ab_cok2 cls) (hC : ee_C p s m args meth c D dA xa xt B y) (hs : ee_sc y pc (36, a, b, n) = true) (h : ab_o36 cC cS κ a n (pc, r) = some L) (k : ∀ S ∈ L, ab_WS cls p l e R s m args below meth c Q D dA xa B rv0 sv0 y S) : ab_WS cls p l e R s m args below meth c Q D dA xa B rv0 sv0 y (pc, r) := by
  unfold ab_o36 at h
  split at h
  · rename_i pc' lo f st hh ce sl heq
    cases heq
    split at h
    · rename_i pp hpp
      cases hc : ab_mkc cC cS κ a 67108864 hh pp ce sl (.inl (nat_lit 0, 0, 0)) with
      | false => rw [ee_cf hc] at h; cases h
      | true =>
        rw [ee_ct hc] at h
        obtain ⟨q, hka, hko, c2, c3, c4, c5, c6, c7, c8, c9, c10⟩ := ab_mkc_spec hc
        obtain ⟨t0, mn, mx⟩ := q
        have c6' : t0 = a := c6
        subst c6'
        intro ks ws rv sv H locs ls vs hr0 hs0 hG hP hD hS hl hv
        match vs, hv with
        | v1 :: vs, ⟨⟨iv, e1, hi⟩, hv⟩ =>
          subst e1
          have hbb := ab_bd_in hG.1 hpp hi
          have hphb : ab_ph sv0.2.2.2.1 ks ws ≤ ab_phb hh := ab_phb_snd (sv0 := sv0) hG hD hs0.2.1.2.2
          obtain ⟨N, hN, eN, tN⟩ := ab_nat_of iv (by omega)
          have hneg : ¬ iv < 0 := by
            rw [Int32.lt_iff_toInt_lt]
            have e9 : (0 : Int32).toInt = 0 := rfl
            omega
          have hcl : iv.toNatClampNeg = N := by
            show iv.toInt.toNat = N
            omega
          have hph := ab_ph_le (ke := sv0.2.2.2.1) hG.2.2.2.2.1 hD
          have hb0 := hs0.2.2
          have hcap2 : ce + (ab_ph sv0.2.2.2.1 ks ws / 1024 - sv0.2.2.2.2.2 / 1024) + 1 ≤ R.cells ∧ sl + (ab_ph sv0.2.2.2.1 ks ws - sv0.2.2.2.2.2) + N ≤ R.slots := ⟨by have := hcap.1; omega, by have := hcap.2; omega⟩
          rcases ha with rfl | rfl | rfl
          · refine sm_36i hC hs hP hD hS hneg hcl (by omega) hcap2 (fun qa H1 hP1 hD1 hS1 => ?_)
            refine ab_mko_on hnc hcok c7 (by omega) hN h k (by rw [← tN]; exact hi) hr0 hs0 hD hG (fun _ => rfl) ?_ hP1 hD1 hS1 hl hv
            refine ⟨fun ci9 ts9 h9 => (by rw [hko] at h9; cases h9), fun t9 lo9 hi9 h9 => ?_, ab_c3_no (by rintro rfl; cases (show ab_nc 17 = true from c7)) (by rintro rfl; cases (show ab_nc 37 = true from c7))⟩
            rw [hka] at h9
            cases h9
            refine Or.inl ⟨Or.inl rfl, N, _, rfl, by dsimp only at c4 hbb; omega, by dsimp only at c5 hbb; omega, fun i hi => ?_⟩
            rcases c8 with c8 | c8
            · cases c8
            · rw [ab_ke_u (ab_nc37 c7)]
              exact ab_fits_snd hG (va := .inl (0, 0, 0)) ⟨0, rfl, rfl⟩ c8
          · refine sm_36l hC hs hP hD hS hneg hcl (by omega) hcap2 (fun qa H1 hP1 hD1 hS1 => ?_)
            refine ab_mko_on hnc hcok c7 (by omega) hN h k (by rw [← tN]; exact hi) hr0 hs0 hD hG (fun h9 => by cases h9) ?_ hP1 hD1 hS1 hl hv
            refine ⟨fun ci9 ts9 h9 => (by rw [hko] at h9; cases h9), fun t9 lo9 hi9 h9 => ?_, ab_c3_no (by rintro rfl; cases (show ab_nc 17 = true from c7)) (by rintro rfl; cases (show ab_nc 37 = true from c7))⟩
            rw [hka] at h9
            cases h9
            exact Or.inr (Or.inl ⟨rfl, N, _, rfl, by dsimp only at c4 hbb; omega, by dsimp only at c5 hbb; omega⟩)
          · refine sm_36z hC hs hP hD hS hneg hcl (by omega) hcap2 (fun qa H1 hP1 hD1 hS1 => ?_)
            refine ab_mko_on hnc hcok c7 (by omega) hN h k (by rw [← tN]; exact hi) hr0 hs0 hD hG (fun h9 => by cases h9) ?_ hP1 hD1 hS1 hl hv
            refine ⟨fun ci9 ts9 h9 => (by rw [hko] at h9; cases h9), fun t9 lo9 hi9 h9 => ?_, ab_c3_no (by rintro rfl; cases (show ab_nc 17 = true from c7)) (by rintro rfl; cases (show ab_nc 37 = true from c7))⟩
            rw [hka] at h9
            cases h9
            refine Or.inl ⟨Or.inr rfl, N, _, rfl, by dsimp only at c4 hbb; omega, by dsimp only at c5 hbb; omega, fun i hi => ?_⟩
            rcases c8 with c8 | c8
            · cases c8
            · rw [ab_ke_u (ab_nc37 c7)]
              exact ab_fits_snd hG (va := .inl (0, 0, 0)) ⟨0, rfl, rfl⟩ c8
    · cases h
  · cases h
theorem as_37 {κ : Nat} (hcap : cC + (6144 - sv0.2.2.2.2.2 / 1024) ≤ R.cells ∧ cS + (6291456 - sv0.2.2.2.2.2) ≤ R.slots) (hnc : ∀ κ, ab_nc κ = true → cls κ = []) (hcok : ab_cok2 cls) (hC : ee_C p s m args meth c D dA xa xt B y) (hs : ee_sc y pc (37, a, b, n) = true) (h : ab_o37 cC cS κ b n (pc, r) = some L) (k : ∀ S ∈ L, ab_WS cls p l e R s m args below meth c Q D dA xa B rv0 sv0 y S) : ab_WS cls p l e R s m args below meth c Q D dA xa B rv0 sv0 y (pc, r) := by
  unfold ab_o37 at h
  split at h
  · rename_i pc' lo f st hh ce sl heq
    cases heq
    split at h
    · rename_i pp hpp
      cases hc : ab_mkc cC cS κ b 1000000 hh pp ce sl (.inr (.inl (nat_lit 0))) with
      | false => rw [ee_cf hc] at h; cases h
      | true =>
        rw [ee_ct hc] at h
        obtain ⟨q, hka, hko, c2, c3, c4, c5, c6, c7, c8, c9, c10⟩ := ab_mkc_spec hc
        obtain ⟨t0, mn, mx⟩ := q
        have c6' : t0 = b := c6
        subst c6'
        intro ks ws rv sv H locs ls vs hr0 hs0 hG hP hD hS hl hv
        match vs, hv with
        | v1 :: vs, ⟨⟨iv, e1, hi⟩, hv⟩ =>
          subst e1
          have hbb := ab_bd_in hG.1 hpp hi
          have hphb : ab_ph sv0.2.2.2.1 ks ws ≤ ab_phb hh := ab_phb_snd (sv0 := sv0) hG hD hs0.2.1.2.2
          obtain ⟨N, hN, eN, tN⟩ := ab_nat_of iv (by omega)
          have hneg : ¬ iv < 0 := by
            rw [Int32.lt_iff_toInt_lt]
            have e9 : (0 : Int32).toInt = 0 := rfl
            omega
          have hcl : iv.toNatClampNeg = N := by
            show iv.toInt.toNat = N
            omega
          have hph := ab_ph_le (ke := sv0.2.2.2.1) hG.2.2.2.2.1 hD
          have hb0 := hs0.2.2
          have hcap2 : ce + (ab_ph sv0.2.2.2.1 ks ws / 1024 - sv0.2.2.2.2.2 / 1024) + 1 ≤ R.cells ∧ sl + (ab_ph sv0.2.2.2.1 ks ws - sv0.2.2.2.2.2) + N ≤ R.slots := ⟨by have := hcap.1; omega, by have := hcap.2; omega⟩
          refine sm_37 hC hs hP hD hS hneg hcl (by omega) hcap2 (fun qa H1 hb3 hb6 hP1 hD1 hS1 => ?_)
          refine ab_mko_on hnc hcok c7 (by omega) hN h k (by rw [← tN]; exact hi) hr0 hs0 hD hG (fun h9 => by cases h9) ?_ hP1 hD1 hS1 hl hv
          refine ⟨fun ci9 ts9 h9 => (by rw [hko] at h9; cases h9), fun t9 lo9 hi9 h9 => ?_, ab_c3_no (by rintro rfl; cases (show ab_nc 17 = true from c7)) (by rintro rfl; cases (show ab_nc 37 = true from c7))⟩
          rw [hka] at h9
          cases h9
          refine Or.inr (Or.inr ⟨hb3, hb6, N, _, rfl, by dsimp only at c4 hbb; omega, by dsimp only at c5 hbb; omega, fun i hi => ?_⟩)
          rcases c8 with c8 | c8
          · omega
          · rw [ab_ke_u (ab_nc37 c7)]
            exact ab_fits_snd hG (va := .inr (.inl 0)) rfl c8
    · cases h
  · cases h
end N2
