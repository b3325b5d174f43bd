/-! ===== new rows of a known length ===== -/
def ab_mkc (cC cS κ t : Nat) (mx : Int) (h : ab_H) (f : ab_L) (ce sl : Nat) (dv : ab_A) : Bool := match ab_ka κ, ab_ko κ with
  | some q, none => (decide (f.2.1 = 0) && (decide (0 ≤ f.2.2) && (decide (f.2.2 ≤ mx) && (decide (q.2.1 ≤ f.2.2) && decide (f.2.2 ≤ q.2.2))))) && ((Nat.beq q.1 t && (ab_nc κ && (Nat.beq t (nat_lit 1) || ab_fits h (ab_ke κ (nat_lit 0)) dv))) && (Nat.ble (Nat.succ ce) cC && Nat.ble (Nat.add sl f.2.2.toNat) cS))
  | _, _ => false
/-- a new row of ints: all its places are 0 -/
def ab_mz (z : Bool) (i : Nat) (f : ab_L) (fs : List ab_F) : List ab_F := bif z then (i, (nat_lit 7, nat_lit 0, 0, f.2.2), .inl (nat_lit 0, 0, 0)) :: fs else fs
def ab_mko (κ n : Nat) (z : Bool) (f : ab_L) : ab_S → Option (List ab_S)
  | (pc, lo, st, h, ce, sl) => ee_f (ee_len h.2.2.1) fun i => ee_f (Nat.add sl f.2.2.toNat) fun sl' => ee_f (Nat.succ ce) fun ce' => some [(Nat.add pc n, lo, .inr (.inl (Nat.succ (Nat.mul (nat_lit 2) i))) :: st, (h.1, h.2.1, ab_snoc h.2.2.1 κ, (i, (nat_lit 2, nat_lit 0, 0, 0), .inl (nat_lit 0, 0, f.2.2)) :: ab_mz z i f h.2.2.2.1, h.2.2.2.2), ce', sl')]
def ab_o36 (cC cS κ a n : Nat) : ab_S → Option (List ab_S)
  | (pc, lo, .inl f :: st, h, ce, sl) => bif ab_mkc cC cS κ a 67108864 h f ce sl (.inl (nat_lit 0, 0, 0)) then ab_mko κ n (Nat.beq a (nat_lit 0)) f (pc, lo, st, h, ce, sl) else none
  | _ => none
def ab_o37 (cC cS κ b n : Nat) : ab_S → Option (List ab_S)
  | (pc, lo, .inl f :: st, h, ce, sl) => bif ab_mkc cC cS κ b 1000000 h f ce sl (.inr (.inl (nat_lit 0))) then ab_mko κ n false f (pc, lo, st, h, ce, sl) else none
  | _ => none
section N2
variable {cls : Nat → List ab_Cl} {p : Program} {l : Launch} {e : Env} {R : Room} {s : State} {m : MethodId} {args : Array Value} {below : List Frame} {meth : Method} {c : Code} {Q : State → Prop} {D : va_G} {dA : Nat → ClassId} {xa : List Nat} {xt : ee_X} {B : Nat} {rv0 : List Int} {sv0 : ab_B} {y : Nat}
variable {pc a b n cC cS : Nat} {r : List ab_A × List ab_A × ab_H × Nat × Nat} {L : List ab_S}
theorem ab_mkc_spec {κ t : Nat} {mx : Int} {h : ab_H} {f : ab_L} {ce sl : Nat} {dv : ab_A} (hc : ab_mkc cC cS κ t mx h f ce sl dv = true) : ∃ q : Nat × Int × Int, ab_ka κ = some q ∧ ab_ko κ = none ∧ f.2.1 = 0 ∧ 0 ≤ f.2.2 ∧ f.2.2 ≤ mx ∧ q.2.1 ≤ f.2.2 ∧ f.2.2 ≤ q.2.2 ∧ q.1 = t ∧ ab_nc κ = true ∧ (t = 1 ∨ ab_fits h (ab_ke κ 0) dv = true) ∧ ce + 1 ≤ cC ∧ sl + f.2.2.toNat ≤ cS := by
  unfold ab_mkc at hc
  split at hc
  · rename_i q hka hko
    simp only [Bool.and_eq_true, Bool.or_eq_true, decide_eq_true_eq] at hc
    obtain ⟨⟨c1, c2, c3, c4, c5⟩, ⟨c6, c7, c8⟩, c9, c10⟩ := hc
    refine ⟨q, hka, hko, c1, c2, c3, c4, c5, Nat.eq_of_beq_eq_true c6, c7, ?_, Nat.le_of_ble_eq_true c9, Nat.le_of_ble_eq_true c10⟩
    rcases c8 with c8 | c8
    · exact Or.inl (Nat.eq_of_beq_eq_true c8)
    · exact Or.inr c8
  · cases hc
theorem ab_nc37 {κ : Nat} (h : ab_nc κ = true) : Nat.beq κ 37 = false := by
  cases h9 : Nat.beq κ 37 with
  | false => rfl
  | true =>
    have e9 : κ = 37 := Nat.eq_of_beq_eq_true h9
    subst e9
    cases (show ab_nc 37 = true from h)
/-- onward with the new row -/
theorem ab_mko_on {κ N : Nat} {z : Bool} {f : ab_L} {lo st : List ab_A} {hh : ab_H} {ce sl : Nat} (hnc : ∀ κ, ab_nc κ = true → cls κ = []) (hcok : ab_cok2 cls) (hn : ab_nc κ = true) (hN : f.2.2 = (N : Int)) (hN31 : N < 2147483648) {LL : List ab_S} (h : ab_mko κ n z f (pc, lo, st, hh, ce, sl) = some LL) (k : ∀ S ∈ LL, ab_WS cls p l e R s m args below meth c Q D dA xa B rv0 sv0 y S)
    {ks : List Nat} {ws : va_W} {rv : List Int} {sv : List (Nat × Nat)} {H1 : Heap} {locs : List Loc} {ls : Array Slot} {vs : List Value} {qa : Nat} {cA : ClassId} {ct9 : (Nat → Int32) ⊕ ((Nat → Int64) ⊕ ((Nat → UInt32) ⊕ ((Nat → UInt64) ⊕ (Nat → Option Nat))))} (hr0 : rv0 <+: rv) (hs0 : ab_px sv0 ks ws sv) (hD : va_D (fun q => B ≤ q) ws) (hG : ab_G cls dA xa ks ws rv sv hh) (hz : z = true → ct9 = .inl (fun _ => 0)) (hcell : ab_cell dA ks (ws.map (·.1)) κ (.inl (cA, N, ct9)))
    (hP1 : va_P D ee_cl (ws ++ [(qa, .inl (cA, N, ct9))]) H1) (hD1 : va_D (fun q => B ≤ q) (ws ++ [(qa, .inl (cA, N, ct9))])) (hS1 : va_S (fun q => B ≤ q) s.heap H1 locs) (hl : ab_lo rv sv xa ls (ee_ml y) lo) (hv : ab_a2 (ab_ok rv sv xa) vs st) :
    W p l e R s m args below meth c H1 locs (ce + 1) (sl + (ab_ph sv0.2.2.2.1 ks ws - sv0.2.2.2.2.2) + N) Q (F0 m (pc + n) ls (.ref qa :: vs)) := by
  unfold ab_mko at h
  simp only [ee_f_eq, ee_len_eq] at h
  cases h
  have k := k _ List.mem_cons_self
  have hG2 := ab_G_mk (qa := qa) hG hcok (hnc κ hn) hcell
  have p2 : sv <+: sv ++ [(ws.length, qa)] := List.prefix_append sv _
  have hsl : sv.length = hh.2.2.1.length := hG.2.2.1.1
  have hnm : (sv ++ [(ws.length, qa)])[hh.2.2.1.length]? = some (ws.length, qa) := by rw [← hsl]; simp
  have eN : f.2.2.toNat = N := by omega
  have hn29 : κ ≠ 29 := by
    rintro rfl
    cases (show ab_nc 29 = true from hn)
  have k9 := k (ks ++ [κ]) _ rv (sv ++ [(ws.length, qa)]) H1 locs ls (.ref qa :: vs) hr0 (ab_px_new hs0 p2 hn29 (ab_ph_new hG.2.2.2.2.1 hD hn29)) (ab_G_adf (h := (hh.1, hh.2.1, ab_snoc hh.2.2.1 κ, ab_mz z hh.2.2.1.length f hh.2.2.2.1, hh.2.2.2.2)) ?_ (f := (hh.2.2.1.length, (2, 0, 0, 0), .inl (0, 0, f.2.2))) ?_) hP1 hD1 hS1 (ab_lo_mono (List.prefix_refl rv) p2 hl) ⟨?_, ab_a2_mono (fun _ _ => ab_ok_mono (List.prefix_refl rv) p2) hv⟩
  · have e9 : Nat.add sl f.2.2.toNat = sl + N := by rw [eN]; rfl
    dsimp only at k9
    rw [e9, ab_ph_new (ke := sv0.2.2.2.1) hG.2.2.2.2.1 hD hn29] at k9
    rw [Nat.add_right_comm]
    exact k9
  · cases hzz : z with
    | false => exact hG2
    | true =>
      refine ab_G_adf hG2 (f := (hh.2.2.1.length, (7, 0, 0, f.2.2), .inl (0, 0, 0))) ?_
      refine ⟨(ws.length, qa), .inl (cA, N, ct9), (N : Int), .int 0, hnm, by simp, ?_, ab_rd_q (t := 4) ?_, ⟨0, rfl, rfl⟩⟩
      · show ab_ev rv (0, 0, f.2.2) = _
        rw [ab_ev0 (f := (0, 0, f.2.2)) rfl, hN]
      · rw [hz hzz]
        exact ⟨cA, N, fun _ => 0, rfl, fun l9 hl9 => ⟨by omega, rfl⟩⟩
  · refine ⟨(ws.length, qa), .inl (cA, N, ct9), 0, .int (Int32.ofNat N), hnm, by simp, rfl, ?_, ⟨_, rfl, ?_⟩⟩
    · show (if N < 2147483648 then some (Value.int (Int32.ofNat N)) else none) = _
      rw [if_pos hN31]
    · rw [ab_ev0 (f := (0, 0, f.2.2)) rfl]
      have e7 : (Int32.ofNat N).toInt = (N : Int) := nI_toInt (n := N) (by omega)
      rw [e7, hN]
  · refine Or.inl ⟨(ws.length, qa), ?_, rfl⟩
    have e3 : Nat.mul 2 hh.2.2.1.length / 2 = hh.2.2.1.length := by
      show (2 * hh.2.2.1.length) / 2 = _
      omega
    show (sv ++ [(ws.length, qa)])[Nat.mul 2 hh.2.2.1.length / 2]? = _
    rw [e3]
    exact hnm
theorem as_36 {κ : Nat} (ha : a = 0 ∨ a = 1 ∨ a = 2) (hcap : cC ≤ R.cells ∧ cS + (6291456 - sv0.2.2.2.2.2) ≤ R.slots) (hnc : ∀ κ, ab_nc κ = true → cls κ = []) (hcok : ab_cok2 cls) (hC : ee_C p s m args meth c D dA xa xt B y) (hs : ee_sc y pc (36, a, b, n) = true) (h : ab_o36 cC cS κ a n (pc, r) = some L) (k : ∀ S ∈ L, ab_WS cls p l e R s m args below meth c Q D dA xa B rv0 sv0 y S) : ab_WS cls p l e R s m args below meth c Q D dA xa B rv0 sv0 y (pc, r) := by
  unfold ab_o36 at h
  split at h
  · rename_i pc' lo f st hh ce sl heq
    cases heq
    cases hc : ab_mkc cC cS κ a 67108864 hh f ce sl (.inl (nat_lit 0, 0, 0)) with
    | false => rw [ee_cf hc] at h; cases h
    | true =>
      rw [ee_ct hc] at h
      obtain ⟨q, hka, hko, c1, c2, c3, c4, c5, c6, c7, c8, c9, c10⟩ := ab_mkc_spec hc
      obtain ⟨t0, mn, mx⟩ := q
      have c6' : t0 = a := c6
      subst c6'
      intro ks ws rv sv H locs ls vs hr0 hs0 hG hP hD hS hl hv
      match vs, hv with
      | v1 :: vs, ⟨⟨iv, e1, hi⟩, hv⟩ =>
        subst e1
        rw [ab_ev0 c1] at hi
        have hi' : f.2.2 = iv.toInt := Option.some.inj hi
        obtain ⟨N, hN, eN, tN⟩ := ab_nat_of iv (by omega)
        have hneg : ¬ iv < 0 := by
          rw [Int32.lt_iff_toInt_lt]
          have e9 : (0 : Int32).toInt = 0 := rfl
          omega
        have hcl : iv.toNatClampNeg = N := by
          show iv.toInt.toNat = N
          omega
        have hph := ab_ph_le (ke := sv0.2.2.2.1) hG.2.2.2.2.1 hD
        have hb0 := hs0.2.2
        have hcap2 : ce + 1 ≤ R.cells ∧ sl + (ab_ph sv0.2.2.2.1 ks ws - sv0.2.2.2.2.2) + N ≤ R.slots := ⟨Nat.le_trans c9 hcap.1, by have := hcap.2; omega⟩
        rcases ha with rfl | rfl | rfl
        · refine sm_36i hC hs hP hD hS hneg hcl (by omega) hcap2 (fun qa H1 hP1 hD1 hS1 => ?_)
          refine ab_mko_on hnc hcok c7 (by omega) hN h k hr0 hs0 hD hG (fun _ => rfl) ?_ hP1 hD1 hS1 hl hv
          refine ⟨fun ci9 ts9 h9 => (by rw [hko] at h9; cases h9), fun t9 lo9 hi9 h9 => ?_, ab_c3_no (by rintro rfl; cases (show ab_nc 17 = true from c7)) (by rintro rfl; cases (show ab_nc 37 = true from c7))⟩
          rw [hka] at h9
          cases h9
          refine Or.inl ⟨Or.inl rfl, N, _, rfl, by dsimp only at c4; omega, by dsimp only at c5; omega, fun i hi => ?_⟩
          rcases c8 with c8 | c8
          · cases c8
          · rw [ab_ke_u (ab_nc37 c7)]
            exact ab_fits_snd hG (va := .inl (0, 0, 0)) ⟨0, rfl, rfl⟩ c8
        · refine sm_36l hC hs hP hD hS hneg hcl (by omega) hcap2 (fun qa H1 hP1 hD1 hS1 => ?_)
          refine ab_mko_on hnc hcok c7 (by omega) hN h k hr0 hs0 hD hG (fun h9 => by cases h9) ?_ hP1 hD1 hS1 hl hv
          refine ⟨fun ci9 ts9 h9 => (by rw [hko] at h9; cases h9), fun t9 lo9 hi9 h9 => ?_, ab_c3_no (by rintro rfl; cases (show ab_nc 17 = true from c7)) (by rintro rfl; cases (show ab_nc 37 = true from c7))⟩
          rw [hka] at h9
          cases h9
          exact Or.inr (Or.inl ⟨rfl, N, _, rfl, by dsimp only at c4; omega, by dsimp only at c5; omega⟩)
        · refine sm_36z hC hs hP hD hS hneg hcl (by omega) hcap2 (fun qa H1 hP1 hD1 hS1 => ?_)
          refine ab_mko_on hnc hcok c7 (by omega) hN h k hr0 hs0 hD hG (fun h9 => by cases h9) ?_ hP1 hD1 hS1 hl hv
          refine ⟨fun ci9 ts9 h9 => (by rw [hko] at h9; cases h9), fun t9 lo9 hi9 h9 => ?_, ab_c3_no (by rintro rfl; cases (show ab_nc 17 = true from c7)) (by rintro rfl; cases (show ab_nc 37 = true from c7))⟩
          rw [hka] at h9
          cases h9
          refine Or.inl ⟨Or.inr rfl, N, _, rfl, by dsimp only at c4; omega, by dsimp only at c5; omega, fun i hi => ?_⟩
          rcases c8 with c8 | c8
          · cases c8
          · rw [ab_ke_u (ab_nc37 c7)]
            exact ab_fits_snd hG (va := .inl (0, 0, 0)) ⟨0, rfl, rfl⟩ c8
  · cases h
theorem as_37 {κ : Nat} (hcap : cC ≤ R.cells ∧ cS + (6291456 - sv0.2.2.2.2.2) ≤ R.slots) (hnc : ∀ κ, ab_nc κ = true → cls κ = []) (hcok : ab_cok2 cls) (hC : ee_C p s m args meth c D dA xa xt B y) (hs : ee_sc y pc (37, a, b, n) = true) (h : ab_o37 cC cS κ b n (pc, r) = some L) (k : ∀ S ∈ L, ab_WS cls p l e R s m args below meth c Q D dA xa B rv0 sv0 y S) : ab_WS cls p l e R s m args below meth c Q D dA xa B rv0 sv0 y (pc, r) := by
  unfold ab_o37 at h
  split at h
  · rename_i pc' lo f st hh ce sl heq
    cases heq
    cases hc : ab_mkc cC cS κ b 1000000 hh f ce sl (.inr (.inl (nat_lit 0))) with
    | false => rw [ee_cf hc] at h; cases h
    | true =>
      rw [ee_ct hc] at h
      obtain ⟨q, hka, hko, c1, c2, c3, c4, c5, c6, c7, c8, c9, c10⟩ := ab_mkc_spec hc
      obtain ⟨t0, mn, mx⟩ := q
      have c6' : t0 = b := c6
      subst c6'
      intro ks ws rv sv H locs ls vs hr0 hs0 hG hP hD hS hl hv
      match vs, hv with
      | v1 :: vs, ⟨⟨iv, e1, hi⟩, hv⟩ =>
        subst e1
        rw [ab_ev0 c1] at hi
        have hi' : f.2.2 = iv.toInt := Option.some.inj hi
        obtain ⟨N, hN, eN, tN⟩ := ab_nat_of iv (by omega)
        have hneg : ¬ iv < 0 := by
          rw [Int32.lt_iff_toInt_lt]
          have e9 : (0 : Int32).toInt = 0 := rfl
          omega
        have hcl : iv.toNatClampNeg = N := by
          show iv.toInt.toNat = N
          omega
        have hph := ab_ph_le (ke := sv0.2.2.2.1) hG.2.2.2.2.1 hD
        have hb0 := hs0.2.2
        have hcap2 : ce + 1 ≤ R.cells ∧ sl + (ab_ph sv0.2.2.2.1 ks ws - sv0.2.2.2.2.2) + N ≤ R.slots := ⟨Nat.le_trans c9 hcap.1, by have := hcap.2; omega⟩
        refine sm_37 hC hs hP hD hS hneg hcl (by omega) hcap2 (fun qa H1 hb3 hb6 hP1 hD1 hS1 => ?_)
        refine ab_mko_on hnc hcok c7 (by omega) hN h k hr0 hs0 hD hG (fun h9 => by cases h9) ?_ hP1 hD1 hS1 hl hv
        refine ⟨fun ci9 ts9 h9 => (by rw [hko] at h9; cases h9), fun t9 lo9 hi9 h9 => ?_, ab_c3_no (by rintro rfl; cases (show ab_nc 17 = true from c7)) (by rintro rfl; cases (show ab_nc 37 = true from c7))⟩
        rw [hka] at h9
        cases h9
        refine Or.inr (Or.inr ⟨hb3, hb6, N, _, rfl, by dsimp only at c4; omega, by dsimp only at c5; omega, fun i hi => ?_⟩)
        rcases c8 with c8 | c8
        · omega
        · rw [ab_ke_u (ab_nc37 c7)]
          exact ab_fits_snd hG (va := .inr (.inl 0)) rfl c8
  · cases h
end N2
