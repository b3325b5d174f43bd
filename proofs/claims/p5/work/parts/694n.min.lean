/-! ===== Math.min in Arrays.copyOf, where the new row stands beside the old ===== -/
def ab_o55x (cC cS n : Nat) : ab_S → Option (List ab_S)
  | (pc, lo, .inl g :: .inl f :: st, h, ce, sl) => bif Nat.ble (ab_cat st) (nat_lit 8) && (Nat.ble ce cC && Nat.ble (Nat.add sl (ab_phb h)) (Nat.add cS (nat_lit 6291456))) then (bif ab_dge h g f then some [(Nat.add pc n, lo, .inl f :: st, h, ce, sl)] else bif ab_dge h f g then some [(Nat.add pc n, lo, .inl g :: st, h, ce, sl)] else match ab_bd h.1 f, ab_bd h.1 g with
    | some p, some q => ab_fr h (ab_min p.1 q.1) (ab_min p.2 q.2) (fun h' u => ab_arl h' f u 0 fun h2 => ab_arl h2 g u 0 fun h3 => some [(Nat.add pc n, lo, .inl u :: st, h3, ce, sl)])
    | _, _ => none) else none
  | _ => none
section OBX
variable {cls : Nat → List ab_Cl} {p : Program} {l : Launch} {e : Env} {R : Room} {s : State} {m : MethodId} {args : Array Value} {below : List Frame} {meth : Method} {c : Code} {Q : State → Prop} {D : va_G} {dA : Nat → ClassId} {xa : List Nat} {xt : ee_X} {B : Nat} {rv0 : List Int} {sv0 : ab_B} {y : Nat}
variable {pc a b n cC cS d : Nat} {r : List ab_A × List ab_A × ab_H × Nat × Nat} {L : List ab_S}
theorem as_55x (hR : d ≤ R.frames ∧ 40 * d ≤ R.locals) (hd0 : 0 < d) (hcap : cC + (6144 - sv0.2.2.2.2.2 / 1024) ≤ R.cells ∧ cS + (6291456 - sv0.2.2.2.2.2) ≤ R.slots) (hC : ee_C p s m args meth c D dA xa xt B y) (hs : ee_sc y pc (55, a, b, n) = true) (h : ab_o55x cC cS n (pc, r) = some L) (k : ∀ S ∈ L, ab_WS cls p l e R s m args below meth c Q D dA xa B rv0 sv0 y S) : ab_WS cls p l e R s m args below meth c Q D dA xa B rv0 sv0 y (pc, r) := by
  unfold ab_o55x at h
  split at h
  · rename_i pc' lo g f st hh ce sl heq
    cases heq
    cases hz : (Nat.ble (ab_cat st) (nat_lit 8) && (Nat.ble ce cC && Nat.ble (Nat.add sl (ab_phb hh)) (Nat.add cS (nat_lit 6291456)))) with
    | false => rw [ee_cf hz] at h; cases h
    | true =>
      rw [ee_ct hz] at h
      rw [Bool.and_eq_true, Bool.and_eq_true] at hz
      intro ks ws rv sv H locs ls vs hr0 hs0 hG hP hD hS hl hv
      match vs, hv with
      | v1 :: v2 :: vs, ⟨⟨yv, e1, hy1⟩, ⟨xv, e2, hx1⟩, hv⟩ =>
        subst e1; subst e2
        have hsz : ls.size = ee_ml y := by
          obtain ⟨-, lv, hlv, -⟩ := hl
          exact hlv.1
        have hm : (if yv < xv then yv else xv).toInt ≤ xv.toInt ∧ (if yv < xv then yv else xv).toInt ≤ yv.toInt ∧ ((if yv < xv then yv else xv).toInt = xv.toInt ∨ (if yv < xv then yv else xv).toInt = yv.toInt) := by
          by_cases hlt : yv < xv
          · rw [if_pos hlt]
            rw [Int32.lt_iff_toInt_lt] at hlt
            omega
          · rw [if_neg hlt]
            rw [Int32.lt_iff_toInt_lt] at hlt
            omega
        have on : ∀ (h' : ab_H) (w9 : ab_L) (rv' : List Int), rv <+: rv' → ab_G cls dA xa ks ws rv' sv h' → ab_ev rv' w9 = some (if yv < xv then yv else xv).toInt → (Nat.add pc n, lo, (.inl w9 : ab_A) :: st, h', ce, sl) ∈ L → W p l e R s m args below meth c H locs (ce + (ab_ph sv0.2.2.2.1 ks ws / 1024 - sv0.2.2.2.2.2 / 1024)) (sl + (ab_ph sv0.2.2.2.1 ks ws - sv0.2.2.2.2.2)) Q (F0 m pc ls (.int yv :: .int xv :: vs)) := by
          intro h' w9 rv' p1 hG' hw9 hin
          exact sm_55 hR hd0 hC hs hsz (Nat.le_trans (ab_cat_le hv) (Nat.le_of_ble_eq_true hz.1)) ⟨by have h7 : ce ≤ cC := Nat.le_of_ble_eq_true hz.2.1; have h8 := ab_ph_le (ke := sv0.2.2.2.1) hG.2.2.2.2.1 hD; have hb0 := hs0.2.2; have hc1 := hcap.1; omega, by have h9 : sl + ab_phb hh ≤ cS + 6291456 := Nat.le_of_ble_eq_true hz.2.2; have h7 : ab_ph sv0.2.2.2.1 ks ws ≤ ab_phb hh := ab_phb_snd (sv0 := sv0) hG hD hs0.2.1.2.2; have h8 := ab_ph_le (ke := sv0.2.2.2.1) hG.2.2.2.2.1 hD; have hb0 := hs0.2.2; have hc2 := hcap.2; omega⟩ (k _ hin ks ws rv' sv H locs ls _ (hr0.trans p1) hs0 hG' hP hD hS (ab_lo_mono p1 (List.prefix_refl sv) hl) ⟨⟨_, rfl, hw9⟩, ab_a2_mono (fun _ _ => ab_ok_mono p1 (List.prefix_refl sv)) hv⟩)
        cases c1 : ab_dge hh g f with
        | true =>
          rw [ee_ct c1] at h
          cases h
          have h9 := ab_dge_snd hG hy1 hx1 c1
          exact on hh f rv (List.prefix_refl rv) hG (by rw [hx1]; congr 1; omega) List.mem_cons_self
        | false =>
        rw [ee_cf c1] at h
        cases c2 : ab_dge hh f g with
        | true =>
          rw [ee_ct c2] at h
          cases h
          have h9 := ab_dge_snd hG hx1 hy1 c2
          exact on hh g rv (List.prefix_refl rv) hG (by rw [hy1]; congr 1; omega) List.mem_cons_self
        | false =>
        rw [ee_cf c2] at h
        split at h
        · rename_i pp qq hp hq
          have bp := ab_bd_in hG.1 hp hx1
          have bq := ab_bd_in hG.1 hq hy1
          have hmn : ab_min pp.1 qq.1 ≤ pp.1 ∧ ab_min pp.1 qq.1 ≤ qq.1 := by
            unfold ab_min
            by_cases c1 : pp.1 ≤ qq.1
            · rw [ee_ct (by simpa using c1)]; omega
            · rw [ee_cf (by simpa using c1)]; omega
          have hg := ab_gets_fr2 (k := fun h3 u => some [(Nat.add pc n, lo, (.inl u : ab_A) :: st, h3, ce, sl)]) hG h (z := (if yv < xv then yv else xv).toInt) (by omega) (ab_le_min (by omega) (by omega)) (fun h' u rv' hp' g1 e1 hk' => by
            try dsimp only at hk'
            obtain ⟨h2, g2, e2⟩ := ab_arl_snd (k := fun h2 => ab_arl h2 g u 0 fun h3 => some [(Nat.add pc n, lo, (.inl u : ab_A) :: st, h3, ce, sl)]) g1 (ab_ev_mono hp' hx1) e1 (d := 0) (by omega)
            rw [e2] at hk'
            try dsimp only at hk'
            obtain ⟨h3, g3, e3⟩ := ab_arl_snd (k := fun h3 => some [(Nat.add pc n, lo, (.inl u : ab_A) :: st, h3, ce, sl)]) g2 (ab_ev_mono hp' hy1) e1 (d := 0) (by omega)
            rw [e3] at hk'
            exact ⟨h3, g3, hk'⟩)
          obtain ⟨h', w9, rv', p1, hG', hw9, hk9⟩ := hg
          cases hk9
          exact on h' w9 rv' p1 hG' hw9 List.mem_cons_self
        · cases h
  · cases h
end OBX
def ab_mcN : ab_Mc := fun cC cS _ y S => bif Nat.beq y (nat_lit 146) && Nat.beq S.1 (nat_lit 25) then ab_o55x cC cS (nat_lit 3) S else none
theorem ab_mcN_snd {l : Launch} {D : va_G} {dA : Nat → ClassId} {xa : List Nat} {xt : ee_X} {B mask X : Nat} : ab_MS ab_cls l D dA xa xt B mask X 1 ab_mcN := by
  intro p e R s m args below meth c Q rv0 sv0 y d cC cS hk hd hR hcap hmask hXX hC hyM S L h kk
  unfold ab_mcN at h
  obtain ⟨hc, h⟩ := ab_bif h
  rw [Bool.and_eq_true] at hc
  have e1 : y = 146 := Nat.eq_of_beq_eq_true hc.1
  subst e1
  obtain ⟨pc, r⟩ := S
  have e2 : pc = 25 := Nat.eq_of_beq_eq_true hc.2
  subst e2
  exact as_55x (a := 304) (b := 0) (n := 3) hR (by omega) hcap hC (by decide +kernel) h kk
