/-! ===== the steps of length and charAt of a known text ===== -/
theorem jv_num2 : ∀ n, n < 128 → (Int32.ofNat n).toInt = (n : Int) := by decide +kernel
section SMT
variable {p : Program} {l : Launch} {e : Env} {R : Room} {s : State} {m : MethodId} {args : Array Value} {below : List Frame} {meth : Method} {c : Code} {Q : State → Prop} {D : va_G} {dA : Nat → ClassId} {xa : List Nat} {xt : ee_X} {B : Nat} {y : Nat}
variable {pc a b n : Nat} {H : Heap} {locs : List Loc} {cells slots : Nat} {ls : Array Slot} {vs : List Value} {ws : va_W}
theorem sm_77 {d j ax : Nat} (hd3 : 3 ≤ d) (hR : d ≤ R.frames ∧ 40 * d ≤ R.locals) (hC : ee_C p s m args meth c D dA xa xt B y) (hs : ee_sc y pc (77, a, b, n) = true) (hsz : ls.size = ee_ml y) (hcat : (vs.map fun v => v.category).sum ≤ 8) (hcap : cells ≤ R.cells ∧ slots ≤ R.slots)
    (hP : va_P D ee_cl ws H) (hD : va_D (fun q => B ≤ q) ws) (hS : va_S (fun q => B ≤ q) s.heap H locs) (h2 : 2 ≤ j) (h23 : j < 23) (hj : xa[j]? = some ax)
    (k : ∀ (H1 : Heap) (locs1 : List Loc), va_P D ee_cl ws H1 → va_S (fun q => B ≤ q) s.heap H1 locs1 → W p l e R s m args below meth c H1 locs1 cells slots Q (F0 m (pc + n) ls (.int (Int32.ofNat (ee_txb j).length) :: vs))) : W p l e R s m args below meth c H locs cells slots Q (F0 m pc ls (.ref ax :: vs)) := by
  obtain ⟨q, hq, hdg, hn, hx, -⟩ := ee_sc_spec hs
  obtain ⟨he, hb, hml, hown, hts, hG, hB, -⟩ := id hC
  cases (show some (Instr.invokevirtual a, 3) = some q from hq)
  cases hn
  obtain ⟨b9, hb9, ⟨hO, -⟩, -⟩ := ee_tx_in hG h2 h23 hj
  have hw := ee_word (show ee_rsq y a 13 0 = true from hx) (w := .methodLink (ee_on.getD (ee_yc y) "") a jn_len) (by decide) (by decide) (by decide) rfl
  refine jt_V (d := d) (vAs := []) (vr := vs) hR (by omega) he hb hown hts hG hB (hml.trans hsz.symm) (jk_len (by omega) h2 h23 hj ws) (by decide) jw_len_c rfl jw_len_i jw_len_s hw jp_len hO hP hD hS ⟨rfl, rfl⟩ hcat hcap hdg ?_
  rintro v ws1 H1 locs1 k9 n9 ⟨rfl, rfl, rfl, rfl⟩ hP1 hD1 hS1
  exact k H1 locs1 hP1 hS1
theorem sm_78 {d j ax i : Nat} (hd5 : 5 ≤ d) (hR : d ≤ R.frames ∧ 40 * d ≤ R.locals) (hC : ee_C p s m args meth c D dA xa xt B y) (hs : ee_sc y pc (78, a, b, n) = true) (hsz : ls.size = ee_ml y) (hcat : (vs.map fun v => v.category).sum ≤ 8) (hcap : cells ≤ R.cells ∧ slots ≤ R.slots)
    (hP : va_P D ee_cl ws H) (hD : va_D (fun q => B ≤ q) ws) (hS : va_S (fun q => B ≤ q) s.heap H locs) (h2 : 2 ≤ j) (h23 : j < 23) (hj : xa[j]? = some ax) (hi : i < (ee_txb j).length)
    (k : ∀ (H1 : Heap) (locs1 : List Loc), va_P D ee_cl ws H1 → va_S (fun q => B ≤ q) s.heap H1 locs1 → W p l e R s m args below meth c H1 locs1 cells slots Q (F0 m (pc + n) ls (.int (Int32.ofNat ((ee_txb j).getD i 0)) :: vs))) : W p l e R s m args below meth c H locs cells slots Q (F0 m pc ls (.int (Int32.ofNat i) :: .ref ax :: vs)) := by
  obtain ⟨q, hq, hdg, hn, hx, -⟩ := ee_sc_spec hs
  obtain ⟨he, hb, hml, hown, hts, hG, hB, -⟩ := id hC
  cases (show some (Instr.invokevirtual a, 3) = some q from hq)
  cases hn
  obtain ⟨b9, hb9, ⟨hO, -⟩, -⟩ := ee_tx_in hG h2 h23 hj
  have hw := ee_word (show ee_rsq y a 14 0 = true from hx) (w := .methodLink (ee_on.getD (ee_yc y) "") a jn_chr) (by decide) (by decide) (by decide) rfl
  refine jt_V (d := d) (vAs := [.int (Int32.ofNat i)]) (vr := vs) hR (by omega) he hb hown hts hG hB (hml.trans hsz.symm) (jk_chr (by omega) h2 h23 hj hi ws) (by decide) jw_ch_c rfl jw_ch_i jw_ch_s hw jp_chr hO hP hD hS ⟨rfl, rfl⟩ hcat hcap hdg ?_
  rintro v ws1 H1 locs1 k9 n9 ⟨rfl, rfl, rfl, rfl⟩ hP1 hD1 hS1
  exact k H1 locs1 hP1 hS1
end SMT
def ab_o77 (cC cS n : Nat) : ab_S → Option (List ab_S)
  | (pc, lo, .inr (.inr (j + 2)) :: st, h, ce, sl) => bif (Nat.ble (nat_lit 2) j && Nat.blt j (nat_lit 23)) && (Nat.ble (ab_cat st) (nat_lit 8) && (Nat.ble ce cC && Nat.ble sl cS)) then (ee_f (ee_len (ee_txb j)) fun u => some [(Nat.add pc n, lo, .inl (nat_lit 0, 0, .ofNat u) :: st, h, ce, sl)]) else none
  | _ => none
def ab_o78 (cC cS n : Nat) : ab_S → Option (List ab_S)
  | (pc, lo, .inl f :: .inr (.inr (j + 2)) :: st, h, ce, sl) => bif decide (f.2.1 = 0) && ((Nat.ble (nat_lit 2) j && Nat.blt j (nat_lit 23)) && (Nat.ble (ab_cat st) (nat_lit 8) && (Nat.ble ce cC && Nat.ble sl cS))) then (match f.2.2 with
    | .ofNat i => (match ee_nth (ee_txb j) i with
      | some z => some [(Nat.add pc n, lo, .inl (nat_lit 0, 0, .ofNat z) :: st, h, ce, sl)]
      | none => none)
    | _ => none) else none
  | _ => none
section OMT
variable {cls : Nat → List ab_Cl} {p : Program} {l : Launch} {e : Env} {R : Room} {s : State} {m : MethodId} {args : Array Value} {below : List Frame} {meth : Method} {c : Code} {Q : State → Prop} {D : va_G} {dA : Nat → ClassId} {xa : List Nat} {xt : ee_X} {B : Nat} {rv0 : List Int} {sv0 : ab_B} {y : Nat}
variable {pc a b n cC cS d : Nat} {r : List ab_A × List ab_A × ab_H × Nat × Nat} {L : List ab_S}
theorem as_77 (hd3 : 3 ≤ d) (hR : d ≤ R.frames ∧ 40 * d ≤ R.locals) (hcap : cC + (6144 - sv0.2.2.2.2.2 / 1024) ≤ R.cells ∧ cS + (6291456 - sv0.2.2.2.2.2) ≤ R.slots) (hC : ee_C p s m args meth c D dA xa xt B y) (hs : ee_sc y pc (77, a, b, n) = true) (h : ab_o77 cC cS n (pc, r) = some L) (k : ∀ S ∈ L, ab_WS cls p l e R s m args below meth c Q D dA xa B rv0 sv0 y S) : ab_WS cls p l e R s m args below meth c Q D dA xa B rv0 sv0 y (pc, r) := by
  unfold ab_o77 at h
  split at h
  · rename_i pc' lo j st hh ce sl heq
    cases heq
    cases hz : ((Nat.ble (nat_lit 2) j && Nat.blt j (nat_lit 23)) && (Nat.ble (ab_cat st) (nat_lit 8) && (Nat.ble ce cC && Nat.ble sl cS))) with
    | false => rw [ee_cf hz] at h; cases h
    | true =>
      rw [ee_ct hz, ee_f_eq] at h
      cases h
      rw [Bool.and_eq_true, Bool.and_eq_true, Bool.and_eq_true, Bool.and_eq_true] at hz
      obtain ⟨⟨z1, z2⟩, z3, z4, z5⟩ := hz
      have h2 : 2 ≤ j := Nat.le_of_ble_eq_true z1
      have h23 : j < 23 := Nat.le_of_ble_eq_true z2
      intro ks ws rv sv H locs ls vs hr0 hs0 hG hP hD hS hl hv
      match vs, hv with
      | v1 :: vs, ⟨⟨ax, hj, e1⟩, hv⟩ =>
        subst e1
        have hsz : ls.size = ee_ml y := by
          obtain ⟨-, lv, hlv, -⟩ := hl
          exact hlv.1
        show W p l e R s m args below meth c H locs (ce + (ab_ph sv0.2.2.2.1 ks ws / 1024 - sv0.2.2.2.2.2 / 1024)) (sl + (ab_ph sv0.2.2.2.1 ks ws - sv0.2.2.2.2.2)) Q (F0 m pc ls (.ref ax :: vs))
        refine sm_77 hd3 hR hC hs hsz (Nat.le_trans (ab_cat_le hv) (Nat.le_of_ble_eq_true z3)) ⟨by have h7 : ce ≤ cC := Nat.le_of_ble_eq_true z4; have h8 := ab_ph_le (ke := sv0.2.2.2.1) hG.2.2.2.2.1 hD; have hb0 := hs0.2.2; have hc1 := hcap.1; omega, by have h9 : sl ≤ cS := Nat.le_of_ble_eq_true z5; have h8 := ab_ph_le (ke := sv0.2.2.2.1) hG.2.2.2.2.1 hD; have hb0 := hs0.2.2; have hc2 := hcap.2; omega⟩ hP hD hS h2 h23 hj (fun H1 locs1 hP1 hS1 => ?_)
        exact k _ List.mem_cons_self ks ws rv sv H1 locs1 ls _ hr0 hs0 hG hP1 hD hS1 hl ⟨⟨_, rfl, by rw [jv_num2 _ (Nat.lt_trans (ee_tx_len h2 h23).1 (by decide)), ee_len_eq]; rfl⟩, hv⟩
  · cases h
theorem as_78 (hd5 : 5 ≤ d) (hR : d ≤ R.frames ∧ 40 * d ≤ R.locals) (hcap : cC + (6144 - sv0.2.2.2.2.2 / 1024) ≤ R.cells ∧ cS + (6291456 - sv0.2.2.2.2.2) ≤ R.slots) (hC : ee_C p s m args meth c D dA xa xt B y) (hs : ee_sc y pc (78, a, b, n) = true) (h : ab_o78 cC cS n (pc, r) = some L) (k : ∀ S ∈ L, ab_WS cls p l e R s m args below meth c Q D dA xa B rv0 sv0 y S) : ab_WS cls p l e R s m args below meth c Q D dA xa B rv0 sv0 y (pc, r) := by
  unfold ab_o78 at h
  split at h
  · rename_i pc' lo f j st hh ce sl heq
    cases heq
    cases hz : (decide (f.2.1 = 0) && ((Nat.ble (nat_lit 2) j && Nat.blt j (nat_lit 23)) && (Nat.ble (ab_cat st) (nat_lit 8) && (Nat.ble ce cC && Nat.ble sl cS)))) with
    | false => rw [ee_cf hz] at h; cases h
    | true =>
      rw [ee_ct hz] at h
      rw [Bool.and_eq_true, Bool.and_eq_true, Bool.and_eq_true, Bool.and_eq_true, Bool.and_eq_true, decide_eq_true_eq] at hz
      obtain ⟨z0, ⟨z1, z2⟩, z3, z4, z5⟩ := hz
      have h2 : 2 ≤ j := Nat.le_of_ble_eq_true z1
      have h23 : j < 23 := Nat.le_of_ble_eq_true z2
      split at h
      · rename_i i hfi
        split at h
        · rename_i z hz9
          cases h
          rw [ee_nth_eq] at hz9
          obtain ⟨hi, ez⟩ := List.getElem?_eq_some_iff.mp hz9
          have hi64 : i < 64 := Nat.lt_trans hi (ee_tx_len h2 h23).1
          have eg : (ee_txb j).getD i 0 = z := by rw [List.getD_eq_getElem?_getD, hz9]; rfl
          have hz128 : z < 128 := by rw [← eg]; exact (ee_tx_len h2 h23).2 i hi
          intro ks ws rv sv H locs ls vs hr0 hs0 hG hP hD hS hl hv
          match vs, hv with
          | v1 :: v2 :: vs, ⟨⟨xv, e1, hx1⟩, ⟨ax, hj, e2⟩, hv⟩ =>
            subst e1; subst e2
            have hsz : ls.size = ee_ml y := by
              obtain ⟨-, lv, hlv, -⟩ := hl
              exact hlv.1
            have exv : xv = Int32.ofNat i := by
              rw [ab_ev0 z0, hfi] at hx1
              have h9 : (Int.ofNat i) = xv.toInt := Option.some.inj hx1
              apply Int32.toInt_inj.mp
              rw [jv_num2 i (Nat.lt_trans hi64 (by decide)), ← h9]
              rfl
            subst exv
            show W p l e R s m args below meth c H locs (ce + (ab_ph sv0.2.2.2.1 ks ws / 1024 - sv0.2.2.2.2.2 / 1024)) (sl + (ab_ph sv0.2.2.2.1 ks ws - sv0.2.2.2.2.2)) Q (F0 m pc ls (.int (Int32.ofNat i) :: .ref ax :: vs))
            refine sm_78 hd5 hR hC hs hsz (Nat.le_trans (ab_cat_le hv) (Nat.le_of_ble_eq_true z3)) ⟨by have h7 : ce ≤ cC := Nat.le_of_ble_eq_true z4; have h8 := ab_ph_le (ke := sv0.2.2.2.1) hG.2.2.2.2.1 hD; have hb0 := hs0.2.2; have hc1 := hcap.1; omega, by have h9 : sl ≤ cS := Nat.le_of_ble_eq_true z5; have h8 := ab_ph_le (ke := sv0.2.2.2.1) hG.2.2.2.2.1 hD; have hb0 := hs0.2.2; have hc2 := hcap.2; omega⟩ hP hD hS h2 h23 hj hi (fun H1 locs1 hP1 hS1 => ?_)
            rw [eg]
            exact k _ List.mem_cons_self ks ws rv sv H1 locs1 ls _ hr0 hs0 hG hP1 hD hS1 hl ⟨⟨_, rfl, by rw [jv_num2 _ hz128]; rfl⟩, hv⟩
        · cases h
      · cases h
  · cases h
end OMT
/-- the strides over texts -/
def ab_mcS : ab_Mc := fun cC cS _ y S => match ee_pg y S.1 with
  | some i => bif Nat.blt S.1 (nat_lit 1100) then (bif Nat.beq i.1 (nat_lit 77) then ab_o77 cC cS i.2.2.2 S else bif Nat.beq i.1 (nat_lit 78) then ab_o78 cC cS i.2.2.2 S else none) else none
  | none => none
theorem ab_mcS_snd {cls : Nat → List ab_Cl} {l : Launch} {D : va_G} {dA : Nat → ClassId} {xa : List Nat} {xt : ee_X} {B mask X : Nat} : ab_MS cls l D dA xa xt B mask X 5 ab_mcS := by
  intro p e R s m args below meth c Q rv0 sv0 y d cC cS hk hd hR hcap hmask hXX hC hyM S L h kk
  unfold ab_mcS at h
  split at h
  · rename_i i hi
    cases hb : Nat.blt S.1 (nat_lit 1100) with
    | false => rw [ee_cf hb] at h; cases h
    | true =>
      rw [ee_ct hb] at h
      have hlt : S.1 < 1100 := Nat.le_of_ble_eq_true hb
      have hsc := ee_sc_all hyM hlt hi
      obtain ⟨op, a, b, n⟩ := i
      dsimp only at h
      obtain ⟨pc, r⟩ := S
      cases h7 : Nat.beq op (nat_lit 77) with
      | true =>
        rw [ee_ct h7] at h
        have e7 : op = 77 := Nat.eq_of_beq_eq_true h7
        subst e7
        exact as_77 (by omega) hR hcap hC hsc h kk
      | false =>
        rw [ee_cf h7] at h
        cases h8 : Nat.beq op (nat_lit 78) with
        | true =>
          rw [ee_ct h8] at h
          have e8 : op = 78 := Nat.eq_of_beq_eq_true h8
          subst e8
          exact as_78 (by omega) hR hcap hC hsc h kk
        | false => rw [ee_cf h8] at h; cases h
  · cases h
