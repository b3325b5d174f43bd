/-! ===== Math.max ===== -/
theorem ee_mxa : Cond.static Lib.Math.max.name ∈ ee_good := ee_gw_in (pos := 1117) (by decide +kernel)
theorem ee_mxc : Cond.code Lib.Math.max.name Lib.Math.max.code 2 (some .int) ∈ ee_good := ee_gw_in (pos := 1118) (by decide +kernel)
section SMX
variable {p : Program} {l : Launch} {e : Env} {R : Room} {s : State} {m : MethodId} {args : Array Value} {below : List Frame} {meth : Method} {c : Code} {Q : State → Prop} {D : va_G} {dA : Nat → ClassId} {xa : List Nat} {xt : ee_X} {B : Nat} {y : Nat}
variable {pc a b n : Nat} {H : Heap} {locs : List Loc} {cells slots : Nat} {ls : Array Slot} {vs : List Value} {ws : va_W}
theorem sm_76 {d : Nat} (hR : d ≤ R.frames ∧ 40 * d ≤ R.locals) (hd0 : 0 < d) (hC : ee_C p s m args meth c D dA xa xt B y) (hs : ee_sc y pc (76, a, b, n) = true) (hsz : ls.size = ee_ml y) (hcat : (vs.map fun v => v.category).sum ≤ 8) (hcap : cells ≤ R.cells ∧ slots ≤ R.slots) {xv yv : Int32}
    (k : W p l e R s m args below meth c H locs cells slots Q (F0 m (pc + n) ls (.int (if xv < yv then yv else xv) :: vs))) : W p l e R s m args below meth c H locs cells slots Q (F0 m pc ls (.int yv :: .int xv :: vs)) := by
  obtain ⟨q, hq, hd, hn, hx, -⟩ := ee_sc_spec hs
  obtain ⟨he, hb, hml, hown, hts, hG, hB, -⟩ := id hC
  cases (show some (Instr.invokestatic a, 3) = some q from hq)
  cases hn
  exact va_mmax he hb (by rw [hml, hsz]) hown (hts _ (ee_word (show ee_rsq y a 12 0 = true from hx) (w := .methodLink (ee_on.getD (ee_yc y) "") a Lib.Math.max.name) (by decide) (by decide) (by decide) rfl)) (hts _ ee_mxa) (hts _ ee_nw2) (hts _ ee_mxc) (by omega) (by omega) hcap.1 hcap.2 hd k
end SMX
def ab_o76 (cC cS n : Nat) : ab_S → Option (List ab_S)
  | (pc, lo, .inl g :: .inl f :: st, h, ce, sl) => bif Nat.ble (ab_cat st) (nat_lit 8) && (Nat.ble ce cC && Nat.ble sl cS) then (bif ab_dge h f g then some [(Nat.add pc n, lo, .inl f :: st, h, ce, sl)] else bif ab_dge h g f then some [(Nat.add pc n, lo, .inl g :: st, h, ce, sl)] else match ab_bd h.1 f, ab_bd h.1 g with
    | some p, some q => ab_fr h (ab_max p.1 q.1) (ab_max p.2 q.2) (fun h' u => ab_arl h' u f 0 fun h2 => ab_arl h2 u g 0 fun h3 => some [(Nat.add pc n, lo, .inl u :: st, h3, ce, sl)])
    | _, _ => none) else none
  | _ => none
section OM
variable {cls : Nat → List ab_Cl} {p : Program} {l : Launch} {e : Env} {R : Room} {s : State} {m : MethodId} {args : Array Value} {below : List Frame} {meth : Method} {c : Code} {Q : State → Prop} {D : va_G} {dA : Nat → ClassId} {xa : List Nat} {xt : ee_X} {B : Nat} {rv0 : List Int} {sv0 : ab_B} {y : Nat}
variable {pc a b n cC cS d : Nat} {r : List ab_A × List ab_A × ab_H × Nat × Nat} {L : List ab_S}
theorem as_76 (hR : d ≤ R.frames ∧ 40 * d ≤ R.locals) (hd0 : 0 < d) (hcap : cC + (6144 - sv0.2.2.2.2.2 / 1024) ≤ R.cells ∧ cS + (6291456 - sv0.2.2.2.2.2) ≤ R.slots) (hC : ee_C p s m args meth c D dA xa xt B y) (hs : ee_sc y pc (76, a, b, n) = true) (h : ab_o76 cC cS n (pc, r) = some L) (k : ∀ S ∈ L, ab_WS cls p l e R s m args below meth c Q D dA xa B rv0 sv0 y S) : ab_WS cls p l e R s m args below meth c Q D dA xa B rv0 sv0 y (pc, r) := by
  unfold ab_o76 at h
  split at h
  · rename_i pc' lo g f st hh ce sl heq
    cases heq
    cases hz : (Nat.ble (ab_cat st) (nat_lit 8) && (Nat.ble ce cC && Nat.ble sl cS)) with
    | false => rw [ee_cf hz] at h; cases h
    | true =>
      rw [ee_ct hz] at h
      rw [Bool.and_eq_true, Bool.and_eq_true] at hz
      intro ks ws rv sv H locs ls vs hr0 hs0 hG hP hD hS hl hv
      match vs, hv with
      | v1 :: v2 :: vs, ⟨⟨yv, e1, hy1⟩, ⟨xv, e2, hx1⟩, hv⟩ =>
        subst e1; subst e2
        have hsz : ls.size = ee_ml y := by
          obtain ⟨-, lv, hlv, -⟩ := hl
          exact hlv.1
        have hm : xv.toInt ≤ (if xv < yv then yv else xv).toInt ∧ yv.toInt ≤ (if xv < yv then yv else xv).toInt ∧ ((if xv < yv then yv else xv).toInt = xv.toInt ∨ (if xv < yv then yv else xv).toInt = yv.toInt) := by
          by_cases hlt : xv < yv
          · rw [if_pos hlt]
            rw [Int32.lt_iff_toInt_lt] at hlt
            omega
          · rw [if_neg hlt]
            rw [Int32.lt_iff_toInt_lt] at hlt
            omega
        have on : ∀ (h' : ab_H) (w9 : ab_L) (rv' : List Int), rv <+: rv' → ab_G cls dA xa ks ws rv' sv h' → ab_ev rv' w9 = some (if xv < yv then yv else xv).toInt → (Nat.add pc n, lo, (.inl w9 : ab_A) :: st, h', ce, sl) ∈ L → W p l e R s m args below meth c H locs (ce + (ab_ph sv0.2.2.2.1 ks ws / 1024 - sv0.2.2.2.2.2 / 1024)) (sl + (ab_ph sv0.2.2.2.1 ks ws - sv0.2.2.2.2.2)) Q (F0 m pc ls (.int yv :: .int xv :: vs)) := by
          intro h' w9 rv' p1 hG' hw9 hin
          exact sm_76 hR hd0 hC hs hsz (Nat.le_trans (ab_cat_le hv) (Nat.le_of_ble_eq_true hz.1)) ⟨by have h7 : ce ≤ cC := Nat.le_of_ble_eq_true hz.2.1; have h8 := ab_ph_le (ke := sv0.2.2.2.1) hG.2.2.2.2.1 hD; have hb0 := hs0.2.2; have hc1 := hcap.1; omega, by have h9 : sl ≤ cS := Nat.le_of_ble_eq_true hz.2.2; have h8 := ab_ph_le (ke := sv0.2.2.2.1) hG.2.2.2.2.1 hD; have hb0 := hs0.2.2; have hc2 := hcap.2; omega⟩ (k _ hin ks ws rv' sv H locs ls _ (hr0.trans p1) hs0 hG' hP hD hS (ab_lo_mono p1 (List.prefix_refl sv) hl) ⟨⟨_, rfl, hw9⟩, ab_a2_mono (fun _ _ => ab_ok_mono p1 (List.prefix_refl sv)) hv⟩)
        cases c1 : ab_dge hh f g with
        | true =>
          rw [ee_ct c1] at h
          cases h
          have h9 := ab_dge_snd hG hx1 hy1 c1
          exact on hh f rv (List.prefix_refl rv) hG (by rw [hx1]; congr 1; omega) List.mem_cons_self
        | false =>
        rw [ee_cf c1] at h
        cases c2 : ab_dge hh g f with
        | true =>
          rw [ee_ct c2] at h
          cases h
          have h9 := ab_dge_snd hG hy1 hx1 c2
          exact on hh g rv (List.prefix_refl rv) hG (by rw [hy1]; congr 1; omega) List.mem_cons_self
        | false =>
        rw [ee_cf c2] at h
        split at h
        · rename_i pp qq hp hq
          have bp := ab_bd_in hG.1 hp hx1
          have bq := ab_bd_in hG.1 hq hy1
          have hmn : pp.2 ≤ ab_max pp.2 qq.2 ∧ qq.2 ≤ ab_max pp.2 qq.2 := by
            unfold ab_max
            by_cases c1 : pp.2 ≤ qq.2
            · rw [ee_ct (by simpa using c1)]; omega
            · rw [ee_cf (by simpa using c1)]; omega
          have hg := ab_gets_fr2 (k := fun h3 u => some [(Nat.add pc n, lo, (.inl u : ab_A) :: st, h3, ce, sl)]) hG h (z := (if xv < yv then yv else xv).toInt) (ab_max_le (by omega) (by omega)) (by omega) (fun h' u rv' hp' g1 e1 hk' => by
            try dsimp only at hk'
            obtain ⟨h2, g2, e2⟩ := ab_arl_snd (k := fun h2 => ab_arl h2 u g 0 fun h3 => some [(Nat.add pc n, lo, (.inl u : ab_A) :: st, h3, ce, sl)]) g1 e1 (ab_ev_mono hp' hx1) (d := 0) (by omega)
            rw [e2] at hk'
            try dsimp only at hk'
            obtain ⟨h3, g3, e3⟩ := ab_arl_snd (k := fun h3 => some [(Nat.add pc n, lo, (.inl u : ab_A) :: st, h3, ce, sl)]) g2 e1 (ab_ev_mono hp' hy1) (d := 0) (by omega)
            rw [e3] at hk'
            exact ⟨h3, g3, hk'⟩)
          obtain ⟨h', w9, rv', p1, hG', hw9, hk9⟩ := hg
          cases hk9
          exact on h' w9 rv' p1 hG' hw9 List.mem_cons_self
        · cases h
  · cases h
end OM
