section ES5
variable {p : Program} {l : Launch} {e : Env} {R : Room} {s : State} {m : MethodId} {args : Array Value} {below : List Frame} {meth : Method} {c : Code} {Q : State → Prop} {D : va_G} {dA : Nat → ClassId} {xa : List Nat} {xt : ee_X} {B : Nat} {ad0 : List Nat} {y : Nat}
variable {pc a b n : Nat} {r : List ee_V × List ee_V × ee_H × Nat × Nat} {S' : ee_S}
theorem ee_zo : ∀ x : Int32, ee_z x = 2147483648 ∨ ee_z x = 2147483649 → vp_nar .boolean x = x := by
  intro x h
  have hz0 := ee_z0
  have hz1 : ee_z 1 = 2147483649 := by decide +kernel
  rcases h with h | h
  · have : x = 0 := ee_zinj (by omega)
    subst this
    decide +kernel
  · have : x = 1 := ee_zinj (by omega)
    subst this
    decide +kernel
theorem es_o29 {want op : Nat} (hop : (op = 29 ∧ want = 0) ∨ (op = 31 ∧ want = 3) ∨ (op = 33 ∧ want = 2)) (hC : ee_C p s m args meth c D dA xa xt B y) (hs : ee_sc y pc (op, a, b, n) = true) (h : ee_o29 want n (pc, r) = some S') (k : ee_WS p l e R s m args below meth c Q D dA xa B ad0 y S') : ee_WS p l e R s m args below meth c Q D dA xa B ad0 y (pc, r) := by
  obtain ⟨q, hq, hd, hn, hx, -⟩ := ee_sc_spec hs
  obtain ⟨he, hb, hml, hown, hts, hG, -⟩ := id hC
  have hlen : n = 1 := by
    rcases hop with ⟨rfl, -⟩ | ⟨rfl, -⟩ | ⟨rfl, -⟩
    · cases (show some (Instr.iastore, 1) = some q from hq); exact hn.symm
    · cases (show some (Instr.aastore, 1) = some q from hq); exact hn.symm
    · cases (show some (Instr.bastore, 1) = some q from hq); exact hn.symm
  subst hlen
  unfold ee_o29 at h
  split at h
  · rename_i pc' lo v w kk st hh r' heq
    cases heq
    split at h
    · rename_i nd hnd
      obtain ⟨t, N, d, ov⟩ := nd
      dsimp only at h
      cases h1 : (ee_kd t want && (ee_ix w N && (bif Nat.beq want (nat_lit 3) then ee_fitR hh t v else ee_fitA t v))) with
      | false => rw [ee_cf h1] at h; cases h
      | true =>
        rw [ee_ct h1, ee_f_eq] at h
        rw [Bool.and_eq_true, Bool.and_eq_true] at h1
        split at h
        · rename_i ov' hov
          split at h
          · rename_i h' hput
            cases h
            have hat := ee_ast_at hov
            change ∀ i, ee_at d ov' i = if i = w.1 - 2147483648 then v else ee_at d ov i at hat
            intro ad ws H locs ls vs hp hwd hP hD hS hl hv
            match vs, hv with
            | v9 :: vi :: vr :: vs, ⟨hokv, ⟨iv, ei, hiv⟩, hok, hvt⟩ =>
              subst ei
              obtain ⟨hvin, hcl, hlt⟩ := ee_ix_in h1.2.1 hiv
              obtain ⟨ax, ex, rfl, hws, -, hnode⟩ := ee_wd_at hwd hnd hok
              rcases hnode with ⟨ht, -⟩ | ⟨ht, f, rfl, hf⟩ | ⟨ht, ht6, g, rfl, hg⟩
              · subst ht
                rcases hop with ⟨-, rfl⟩ | ⟨-, rfl⟩ | ⟨-, rfl⟩ <;> cases h1.1
              · rcases hop with ⟨rfl, rfl⟩ | ⟨rfl, rfl⟩ | ⟨rfl, rfl⟩
                · have e0 : t = 0 := Nat.eq_of_beq_eq_true (show Nat.beq t (nat_lit 0) = true from h1.1)
                  subst e0
                  cases (show some (Instr.iastore, 1) = some q from hq)
                  have hfa : ee_fitA 0 v = true := h1.2.2
                  match v, hfa, hokv, hput, hat with
                  | .inl qv, hfa, ⟨xv, exv, hxv⟩, hput, hat =>
                    subst exv
                    refine va_iast he hb hG.1 hP hD hS kk 0 hws rfl hvin hd (fun H1 locs1 hP1 hD1 hS1 => ?_)
                    refine k ad _ H1 locs1 ls vs hp (ee_wd_put hwd hws hput ?_) hP1 hD1 hS1 hl hvt
                    refine Or.inr (Or.inl ⟨Or.inl rfl, _, rfl, fun j hj => ?_⟩)
                    rw [hat j, hcl]
                    by_cases hjw : j = w.1 - 2147483648
                    · rw [if_pos hjw, hjw, pk_us]
                      exact ⟨xv, rfl, hxv⟩
                    · rw [if_neg hjw, pk_un hjw]
                      exact hf j hj
                · exact absurd (show Nat.ble (nat_lit 3) t = true from h1.1) (by rcases ht with rfl | rfl <;> decide)
                · have e0 : t = 2 := Nat.eq_of_beq_eq_true (show Nat.beq t (nat_lit 2) = true from h1.1)
                  subst e0
                  cases (show some (Instr.bastore, 1) = some q from hq)
                  have hfa : ee_fitA 2 v = true := h1.2.2
                  match v, hfa, hokv, hput, hat with
                  | .inl qv, hfa, ⟨xv, exv, hxv⟩, hput, hat =>
                    subst exv
                    have hfa' : (Nat.ble (nat_lit 2147483648) qv.1 && Nat.ble qv.2 (nat_lit 2147483649)) = true := hfa
                    rw [Bool.and_eq_true] at hfa'
                    have q1 : 2147483648 ≤ qv.1 := Nat.le_of_ble_eq_true hfa'.1
                    have q2 : qv.2 ≤ 2147483649 := Nat.le_of_ble_eq_true hfa'.2
                    have hnar : vp_nar .boolean xv = xv := ee_zo xv (by have := hxv.1; have := hxv.2; omega)
                    refine va_zast he hb hG.1 hP hD hS kk 2 hws rfl hvin hd (fun H1 locs1 hP1 hD1 hS1 => ?_)
                    refine k ad _ H1 locs1 ls vs hp (ee_wd_put hwd hws hput ?_) hP1 hD1 hS1 hl hvt
                    refine Or.inr (Or.inl ⟨Or.inr rfl, _, rfl, fun j hj => ?_⟩)
                    rw [hat j, hcl, hnar]
                    by_cases hjw : j = w.1 - 2147483648
                    · rw [if_pos hjw, hjw, pk_us]
                      exact ⟨xv, rfl, hxv⟩
                    · rw [if_neg hjw, pk_un hjw]
                      exact hf j hj
              · rcases hop with ⟨rfl, rfl⟩ | ⟨rfl, rfl⟩ | ⟨rfl, rfl⟩
                · have e0 : t = 0 := Nat.eq_of_beq_eq_true (show Nat.beq t (nat_lit 0) = true from h1.1)
                  omega
                · cases (show some (Instr.aastore, 1) = some q from hq)
                  have hfa : ee_fitR hh t v = true := h1.2.2
                  have hup : ∀ (z : Option Nat), ee_ok ad xa (va_rf z) v → ∀ j, j < N → ee_ok ad xa (va_rf (va_up g iv.toNatClampNeg z j)) (ee_at d ov' j) := by
                    intro z hz j hj
                    rw [hat j, hcl]
                    by_cases hjw : j = w.1 - 2147483648
                    · rw [if_pos hjw, hjw]
                      show ee_ok ad xa (va_rf (if _ = _ then z else _)) v
                      rw [if_pos rfl]
                      exact hz
                    · rw [if_neg hjw]
                      show ee_ok ad xa (va_rf (if _ = _ then z else _)) _
                      rw [if_neg hjw]
                      exact hg j hj
                  match v, hfa, hokv, hput, hup with
                  | .inr (.inl 0), hfa, hokv, hput, hup =>
                    cases (show v9 = .null from hokv)
                    have hgo : ∀ (H1 : Heap) (locs1 : List Loc), va_P D ee_cl (ws.set kk (ax, .inl (dA t, N, .inr (.inr (.inr (.inr (va_up g iv.toNatClampNeg none))))))) H1 → va_D (fun q => B ≤ q) (ws.set kk (ax, .inl (dA t, N, .inr (.inr (.inr (.inr (va_up g iv.toNatClampNeg none))))))) → va_S (fun q => B ≤ q) s.heap H1 locs1 → W p l e R s m args below meth c H1 locs1 r'.1 r'.2 Q (F0 m (pc + 1) ls vs) := fun H1 locs1 hP1 hD1 hS1 =>
                      k ad _ H1 locs1 ls vs hp (ee_wd_put hwd hws hput (Or.inr (Or.inr ⟨ht, ht6, _, rfl, hup none rfl⟩))) hP1 hD1 hS1 hl hvt
                    rcases (show t = 3 ∨ t = 4 ∨ t = 5 ∨ t = 6 by omega) with rfl | rfl | rfl | rfl
                    · exact va_astqN he hb hG.1 hP hD hS kk 3 hws rfl hvin hd hgo
                    · exact va_astqN he hb hG.1 hP hD hS kk 4 hws rfl hvin hd hgo
                    · exact va_astqN he hb hG.1 hP hD hS kk 5 hws rfl hvin hd hgo
                    · exact va_astqN he hb hG.1 hP hD hS kk 6 hws rfl hvin hd hgo
                  | .inr (.inl (k2 + 1)), hfa, hokv, hput, hup =>
                    have hfa' : (match ee_get hh k2 with
                      | some (.inl nd) => Nat.beq (ee_ec t) nd.1
                      | _ => false) = true := hfa
                    split at hfa'
                    · rename_i nd2 hnd2
                      obtain ⟨c2, fs2⟩ := nd2
                      have e2 : ee_ec t = c2 := Nat.eq_of_beq_eq_true hfa'
                      obtain ⟨a2, ex2, rfl, hws2, -, vs2, rfl, -⟩ := ee_wd_at hwd hnd2 hokv
                      have hgo : ∀ (H1 : Heap) (locs1 : List Loc), va_P D ee_cl (ws.set kk (ax, .inl (dA t, N, .inr (.inr (.inr (.inr (va_up g iv.toNatClampNeg (some a2)))))))) H1 → va_D (fun q => B ≤ q) (ws.set kk (ax, .inl (dA t, N, .inr (.inr (.inr (.inr (va_up g iv.toNatClampNeg (some a2)))))))) → va_S (fun q => B ≤ q) s.heap H1 locs1 → W p l e R s m args below meth c H1 locs1 r'.1 r'.2 Q (F0 m (pc + 1) ls vs) := fun H1 locs1 hP1 hD1 hS1 =>
                        k ad _ H1 locs1 ls vs hp (ee_wd_put hwd hws hput (Or.inr (Or.inr ⟨ht, ht6, _, rfl, hup (some a2) hokv⟩))) hP1 hD1 hS1 hl hvt
                      subst e2
                      rcases (show t = 3 ∨ t = 4 ∨ t = 5 ∨ t = 6 by omega) with rfl | rfl | rfl | rfl
                      · exact va_astq (r := (ee_c4, ee_T4, 8)) he hb hG.1 hP hD hS kk 3 k2 4 hws rfl hws2 rfl hvin hd hgo
                      · exact va_astq (r := (ee_c5, ee_T5, 11)) he hb hG.1 hP hD hS kk 4 k2 5 hws rfl hws2 rfl hvin hd hgo
                      · exact va_astq (r := (ee_c3, ee_T3, 14)) he hb hG.1 hP hD hS kk 5 k2 3 hws rfl hws2 rfl hvin hd hgo
                      · exact va_astq (r := (ee_c10, ee_T10, 3)) he hb hG.1 hP hD hS kk 6 k2 10 hws rfl hws2 rfl hvin hd hgo
                    · cases hfa'
                · have e0 : t = 2 := Nat.eq_of_beq_eq_true (show Nat.beq t (nat_lit 2) = true from h1.1)
                  omega
          · cases h
        · cases h
    · cases h
  · cases h
theorem es_o35 (hC : ee_C p s m args meth c D dA xa xt B y) (hs : ee_sc y pc (35, a, b, n) = true) (h : ee_o35 b n (pc, r) = some S') (hcap : S'.2.2.2.2.1 ≤ R.cells ∧ S'.2.2.2.2.2 ≤ R.slots) (k : ee_WS p l e R s m args below meth c Q D dA xa B ad0 y S') : ee_WS p l e R s m args below meth c Q D dA xa B ad0 y (pc, r) := by
  obtain ⟨q, hq, hd, hn, hx, -⟩ := ee_sc_spec hs
  obtain ⟨he, hb, hml, hown, hts, hG, hB, -⟩ := id hC
  cases (show some (Instr.new a, 3) = some q from hq)
  cases hn
  have hx' : (ee_rsq y a 3 b && decide (b < ee_cl.length)) = true := hx
  rw [Bool.and_eq_true] at hx'
  obtain ⟨C, T, N, fs0, ecx, ecl, edf, hfl, hin, hty, hnm, hdecl, hins, hini, hkind⟩ := ee_cls (ci := b) (of_decide_eq_true hx'.2)
  obtain ⟨lo, st, hh, cc, sl⟩ := r
  unfold ee_o35 at h
  dsimp only at h
  rw [edf] at h
  dsimp only at h
  split at h
  · rename_i h' hnew
    simp only [ee_f_eq, ee_len_eq] at h
    cases h
    rw [hfl] at hcap k
    have hcap1 : cc + 1 ≤ R.cells := hcap.1
    have hcap2 : sl + N ≤ R.slots := hcap.2
    intro ad ws H locs ls vs hp hwd hP hD hS hl hv
    refine va_new (ci := b) (fs := (List.range N).map (fun j => defaultValue (ee_ty b j))) he hb hts hin (ee_ty b) hty hown (hts _ (ee_word hx'.1 (w := .classLink (ee_on.getD (ee_yc y) "") a C) (by decide) (by decide) (by decide) (by show some _ = _; rw [ecx]))) (hts _ hins) (hts _ hini) hG.1 hP hD hS (fun q h9 => Nat.le_trans hB h9) ecl ?_ hcap1 hcap2 hd (fun qa H1 hP1 hD1 hS1 => ?_)
    · intro j hj
      show _ = ((List.range N).map (fun j => defaultValue (ee_ty b j))).getD j .null
      simp [List.getD_eq_getElem?_getD, hj]
    · have hnd : ee_nd dA (ad ++ [qa]) xa (.inr (b, (List.range N).map (fun j => defaultValue (ee_ty b j)))) (.inl (b, fs0)) := by
        refine ⟨_, rfl, ee_a2_of (by simp [hfl]) (fun i v9 w9 h1 h2 => ?_)⟩
        have hiN : i < N := by
          have := (List.getElem?_eq_some_iff.mp h2).1
          omega
        have e1 : defaultValue (ee_ty b i) = v9 := by
          simp [hiN] at h1
          exact h1
        subst e1
        rcases hkind i hiN with ⟨-, q2, q3⟩ | ⟨-, q2, q3⟩ | ⟨-, q2, q3⟩
        · rw [q3] at h2; cases h2
          rw [q2]
          exact ⟨0, rfl, by rw [ee_in, ee_z0]; exact ⟨Nat.le_refl _, Nat.le_refl _⟩⟩
        · rw [q3] at h2; cases h2
          rw [q2]
          exact ⟨0, rfl, by rw [ee_in, ee_z0]; exact ⟨Nat.le_refl _, Nat.le_refl _⟩⟩
        · rw [q3] at h2; cases h2
          rcases q2 with ⟨z, q2⟩ | ⟨z, q2⟩ <;> rw [q2] <;> exact rfl
      obtain ⟨g1, g2⟩ := ee_wd_new hwd hnew hnd
      have hpre := List.prefix_append ad [qa]
      exact k (ad ++ [qa]) _ H1 locs ls (.ref qa :: vs) (hp.trans hpre) g1 hP1 hD1 hS1 (ee_lo_mono hpre hl) ⟨⟨qa, g2, rfl⟩, ee_a2_mono (fun _ _ => ee_ok_mono hpre) hv⟩
  · cases h
theorem es_o36 (hC : ee_C p s m args meth c D dA xa xt B y) (hs : ee_sc y pc (36, a, b, n) = true) (h : ee_o36 a n (pc, r) = some S') (hcap : S'.2.2.2.2.1 ≤ R.cells ∧ S'.2.2.2.2.2 ≤ R.slots) (k : ee_WS p l e R s m args below meth c Q D dA xa B ad0 y S') : ee_WS p l e R s m args below meth c Q D dA xa B ad0 y (pc, r) := by
  obtain ⟨q, hq, hd, hn, hx, -⟩ := ee_sc_spec hs
  obtain ⟨he, hb, hml, hown, hts, hG, hB, -⟩ := id hC
  cases (show some (Instr.newarray (ee_atp a), 2) = some q from hq)
  cases hn
  have ha2 : a ≤ 2 := of_decide_eq_true (show decide (a ≤ 2) = true from hx)
  unfold ee_o36 at h
  split at h
  · rename_i pc' lo w st hh cc sl heq
    cases heq
    cases h1 : (Nat.ble a (nat_lit 6) && ee_ix w (nat_lit 1000000)) with
    | false => rw [ee_cf h1] at h; cases h
    | true =>
      rw [ee_ct h1, ee_f_eq] at h
      rw [Bool.and_eq_true] at h1
      split at h
      · rename_i h' hnew
        simp only [ee_f_eq] at h
        cases h
        have hcap1 : cc + 1 ≤ R.cells := hcap.1
        have hcap2 : sl + (w.1 - 2147483648) ≤ R.slots := hcap.2
        change ee_new hh (.inr (a, w.1 - 2147483648, ee_dv a, [])) = some h' at hnew
        intro ad ws H locs ls vs hp hwd hP hD hS hl hv
        match vs, hv with
        | vi :: vs, ⟨⟨iv, ei, hiv⟩, hv⟩ =>
          subst ei
          obtain ⟨hvin, hcl, hlt⟩ := ee_ix_in h1.2 hiv
          have hlt : w.1 - 2147483648 < 1000000 := hlt
          have hneg : ¬ iv < 0 := fun z => hvin (Or.inl z)
          have fin : ∀ (qa : Nat) (e9 : va_E) (H1 : Heap), ee_nd dA (ad ++ [qa]) xa e9 (.inr (a, w.1 - 2147483648, ee_dv a, [])) → va_P D ee_cl (ws ++ [(qa, e9)]) H1 → va_D (fun q => B ≤ q) (ws ++ [(qa, e9)]) → va_S (fun q => B ≤ q) s.heap H1 locs → W p l e R s m args below meth c H1 locs (cc + 1) (sl + (w.1 - 2147483648)) Q (F0 m (pc + 2) ls (.ref qa :: vs)) := by
            intro qa e9 H1 hnd hP1 hD1 hS1
            obtain ⟨g1, g2⟩ := ee_wd_new hwd hnew hnd
            have hpre := List.prefix_append ad [qa]
            exact k (ad ++ [qa]) _ H1 locs ls (.ref qa :: vs) (hp.trans hpre) g1 hP1 hD1 hS1 (ee_lo_mono hpre hl) ⟨⟨qa, g2, rfl⟩, ee_a2_mono (fun _ _ => ee_ok_mono hpre) hv⟩
          have hz : ∀ (ad9 : List Nat), ee_ok ad9 xa (.int 0) (.inl (nat_lit 2147483648, nat_lit 2147483648)) := fun ad9 => ⟨0, rfl, by rw [ee_in, ee_z0]; exact ⟨Nat.le_refl _, Nat.le_refl _⟩⟩
          rcases (show a = 0 ∨ a = 1 ∨ a = 2 by omega) with rfl | rfl | rfl
          · refine va_newa (atype := .int) (ty := .int) (a0 := (w.1 - 2147483648, .inl (fun _ => 0))) he hb (hts _ ee_aw0) rfl hG.1 hP hD hS (fun q h9 => Nat.le_trans hB h9) (fun _ => rfl) hneg hcl (by show _ * 4 ≤ _; omega) hcap1 hcap2 hd (fun qa cA H1 hK1 hP1 hD1 hS1 => ?_)
            have e1 : cA = dA 0 := Option.some.inj (((hK1.2 7 (cA, .int) rfl).2.symm : some cA = s.vm.findClass _).trans (hG.1.2 0 (dA 0, .int) rfl).2)
            subst e1
            exact fin qa _ H1 (Or.inr (Or.inl ⟨Or.inl rfl, _, rfl, fun j hj => hz _⟩)) hP1 hD1 hS1
          · refine va_newa (atype := .long) (ty := .long) (a0 := (w.1 - 2147483648, .inr (.inl (fun _ => 0)))) he hb (hts _ ee_aw1) rfl hG.1 hP hD hS (fun q h9 => Nat.le_trans hB h9) (fun _ => rfl) hneg hcl (by show _ * 8 ≤ _; omega) hcap1 hcap2 hd (fun qa cA H1 hK1 hP1 hD1 hS1 => ?_)
            have e1 : cA = dA 1 := Option.some.inj (((hK1.2 7 (cA, .long) rfl).2.symm : some cA = s.vm.findClass _).trans (hG.1.2 1 (dA 1, .long) rfl).2)
            subst e1
            exact fin qa _ H1 (Or.inl ⟨rfl, _, rfl⟩) hP1 hD1 hS1
          · refine va_newa (atype := .boolean) (ty := .boolean) (a0 := (w.1 - 2147483648, .inl (fun _ => 0))) he hb (hts _ ee_aw2) rfl hG.1 hP hD hS (fun q h9 => Nat.le_trans hB h9) (fun _ => rfl) hneg hcl (by show _ * 1 ≤ _; omega) hcap1 hcap2 hd (fun qa cA H1 hK1 hP1 hD1 hS1 => ?_)
            have e1 : cA = dA 2 := Option.some.inj (((hK1.2 7 (cA, .boolean) rfl).2.symm : some cA = s.vm.findClass _).trans (hG.1.2 2 (dA 2, .boolean) rfl).2)
            subst e1
            exact fin qa _ H1 (Or.inr (Or.inl ⟨Or.inr rfl, _, rfl, fun j hj => hz _⟩)) hP1 hD1 hS1
      · cases h
  · cases h
theorem es_o37 (hC : ee_C p s m args meth c D dA xa xt B y) (hs : ee_sc y pc (37, a, b, n) = true) (h : ee_o36 b n (pc, r) = some S') (hcap : S'.2.2.2.2.1 ≤ R.cells ∧ S'.2.2.2.2.2 ≤ R.slots) (k : ee_WS p l e R s m args below meth c Q D dA xa B ad0 y S') : ee_WS p l e R s m args below meth c Q D dA xa B ad0 y (pc, r) := by
  obtain ⟨q, hq, hd, hn, hx, -⟩ := ee_sc_spec hs
  obtain ⟨he, hb, hml, hown, hts, hG, hB, -⟩ := id hC
  cases (show some (Instr.anewarray a, 3) = some q from hq)
  cases hn
  have hx' : (ee_rsq y a 3 (ee_ec b) && decide (3 ≤ b ∧ b ≤ 6)) = true := hx
  rw [Bool.and_eq_true] at hx'
  obtain ⟨hb3, hb6⟩ := of_decide_eq_true hx'.2
  have hlink := hts _ (ee_word hx'.1 (w := .classLink (ee_on.getD (ee_yc y) "") a (ee_cx (ee_ec b)).1) (by decide) (by decide) (by decide) rfl)
  unfold ee_o36 at h
  split at h
  · rename_i pc' lo w st hh cc sl heq
    cases heq
    cases h1 : (Nat.ble b (nat_lit 6) && ee_ix w (nat_lit 1000000)) with
    | false => rw [ee_cf h1] at h; cases h
    | true =>
      rw [ee_ct h1, ee_f_eq] at h
      rw [Bool.and_eq_true] at h1
      split at h
      · rename_i h' hnew
        simp only [ee_f_eq] at h
        cases h
        have hcap1 : cc + 1 ≤ R.cells := hcap.1
        have hcap2 : sl + (w.1 - 2147483648) ≤ R.slots := hcap.2
        change ee_new hh (.inr (b, w.1 - 2147483648, ee_dv b, [])) = some h' at hnew
        intro ad ws H locs ls vs hp hwd hP hD hS hl hv
        match vs, hv with
        | vi :: vs, ⟨⟨iv, ei, hiv⟩, hv⟩ =>
          subst ei
          obtain ⟨hvin, hcl, hlt⟩ := ee_ix_in h1.2 hiv
          have hlt : w.1 - 2147483648 < 1000000 := hlt
          have hneg : ¬ iv < 0 := fun z => hvin (Or.inl z)
          have fin : ∀ (qa : Nat) (H1 : Heap), va_P D ee_cl (ws ++ [(qa, .inl (dA b, w.1 - 2147483648, .inr (.inr (.inr (.inr (fun _ => none))))))]) H1 → va_D (fun q => B ≤ q) (ws ++ [(qa, .inl (dA b, w.1 - 2147483648, .inr (.inr (.inr (.inr (fun _ => none))))))]) → va_S (fun q => B ≤ q) s.heap H1 locs → W p l e R s m args below meth c H1 locs (cc + 1) (sl + (w.1 - 2147483648)) Q (F0 m (pc + 3) ls (.ref qa :: vs)) := by
            intro qa H1 hP1 hD1 hS1
            have hdv : ee_dv b = .inr (.inl 0) := by
              rcases (show b = 3 ∨ b = 4 ∨ b = 5 ∨ b = 6 by omega) with rfl | rfl | rfl | rfl <;> rfl
            obtain ⟨g1, g2⟩ := ee_wd_new hwd hnew (a := qa) (e := .inl (dA b, w.1 - 2147483648, .inr (.inr (.inr (.inr (fun _ => none)))))) (Or.inr (Or.inr ⟨hb3, hb6, _, rfl, fun j hj => by rw [hdv]; exact rfl⟩))
            have hpre := List.prefix_append ad [qa]
            exact k (ad ++ [qa]) _ H1 locs ls (.ref qa :: vs) (hp.trans hpre) g1 hP1 hD1 hS1 (ee_lo_mono hpre hl) ⟨⟨qa, g2, rfl⟩, ee_a2_mono (fun _ _ => ee_ok_mono hpre) hv⟩
          have key : ∀ C : String, (Cond.classLink (ee_on.getD (ee_yc y) "") a C).before args s = true → C ∈ ee_ao → (ee_tys dA)[b]? = some (dA b, .object C) → W p l e R s m args below meth c H locs cc sl Q (F0 m pc ls (.int iv :: vs)) := by
            intro C hcl9 hao htb
            refine va_newq he hb hown hcl9 (hG.2.2.1 C hao) hG.1 hP hD hS (fun q h9 => Nat.le_trans hB h9) hneg hcl (by omega) hcap1 hcap2 hd (fun qa cA H1 hK1 hP1 hD1 hS1 => ?_)
            obtain ⟨kA, comp, x1, x2, x3, x4⟩ := (hK1.2 7 (cA, .object C) rfl).2
            obtain ⟨kA', comp', y1, y2, y3, y4⟩ := (hG.1.2 b (dA b, .object C) htb).2
            have e1 : cA = dA b := Option.some.inj (x4.symm.trans y4)
            subst e1
            exact fin qa H1 hP1 hD1 hS1
          rcases (show b = 3 ∨ b = 4 ∨ b = 5 ∨ b = 6 by omega) with rfl | rfl | rfl | rfl
          · exact key ee_c4 hlink (by simp [ee_ao]) rfl
          · exact key ee_c5 hlink (by simp [ee_ao]) rfl
          · exact key ee_c3 hlink (by simp [ee_ao]) rfl
          · exact key ee_c10 hlink (by simp [ee_ao]) rfl
      · cases h
  · cases h
end ES5
