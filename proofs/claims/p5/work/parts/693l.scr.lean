/-! ===== the stride over the loop of the reference's script(): the rows that were read become a SCRIPT ===== -/
def ab_c37m (mm : Nat) : Bool := ab_c37.all fun cc => (cc.1.any fun gg => (Nat.beq gg.1.1 (nat_lit 1) && Nat.beq gg.1.2.1 (Nat.add (nat_lit 496) (Nat.mul (nat_lit 200) mm))) && decide (1 ≤ gg.2.1)) || ((ab_rgs cc).all fun rr => (Nat.blt rr.2.1 (Nat.add (nat_lit 540) (Nat.mul (nat_lit 200) mm)) || Nat.ble (Nat.add (nat_lit 620) (Nat.mul (nat_lit 200) mm)) rr.2.1) && (Nat.beq rr.1 (nat_lit 1) || (Nat.beq rr.1 (nat_lit 4) && (!Nat.beq rr.2.2.1 mm && Nat.blt rr.2.2.1 (nat_lit 4)))))
theorem ab_c37m1 : ab_c37m 1 = true := by decide +kernel
theorem ab_c37m2 : ab_c37m 2 = true := by decide +kernel
theorem ab_c37m3 : ab_c37m 3 = true := by decide +kernel
theorem ab_c37m_at {mm : Nat} (h1 : 1 ≤ mm) (h3 : mm ≤ 3) : ab_c37m mm = true := by
  match mm, h1, h3 with
  | 1, _, _ => exact ab_c37m1
  | 2, _, _ => exact ab_c37m2
  | 3, _, _ => exact ab_c37m3
  | mm + 4, _, h3 => omega
def ab_kes (mm : Nat) : Bool := (List.range 80).all fun k => match ab_all (540 + 200 * mm + k) with
  | .inl q => bif Nat.beq (k % 4) (nat_lit 1) then decide (q.1 = 0) && decide (q.2 = 20) else decide (q.1 = -2147483648) && decide (q.2 = 2147483647)
  | _ => false
theorem ab_kes1 : ab_kes 1 = true := by decide +kernel
theorem ab_kes2 : ab_kes 2 = true := by decide +kernel
theorem ab_kes3 : ab_kes 3 = true := by decide +kernel
theorem ab_kes_at {mm k : Nat} (h1 : 1 ≤ mm) (h3 : mm ≤ 3) (hk : k < 80) : ∃ q : Int × Int, ab_all (540 + 200 * mm + k) = .inl q ∧ ((k % 4 = 1 ∧ q.1 = 0 ∧ q.2 = 20) ∨ (k % 4 ≠ 1 ∧ q.1 = -2147483648 ∧ q.2 = 2147483647)) := by
  have h : ab_kes mm = true := by
    match mm, h1, h3 with
    | 1, _, _ => exact ab_kes1
    | 2, _, _ => exact ab_kes2
    | 3, _, _ => exact ab_kes3
    | mm + 4, _, h3 => omega
  have h9 := List.all_eq_true.mp h k (List.mem_range.mpr hk)
  split at h9
  · rename_i q hq
    refine ⟨q, hq, ?_⟩
    cases hc : Nat.beq (k % 4) (nat_lit 1) with
    | true =>
      rw [ee_ct hc, Bool.and_eq_true, decide_eq_true_eq, decide_eq_true_eq] at h9
      exact Or.inl ⟨Nat.eq_of_beq_eq_true hc, h9⟩
    | false =>
      rw [ee_cf hc, Bool.and_eq_true, decide_eq_true_eq, decide_eq_true_eq] at h9
      refine Or.inr ⟨fun z => ?_, h9⟩
      rw [z] at hc
      cases hc
  · cases h9
theorem ab_hd_m {ws ws' : va_W} {cA : ClassId} {f f' : Nat → Int32} {mm : Nat} (h1 : 1 ≤ mm) (h3 : mm ≤ 3) (heq : ∀ j, ¬ (540 + 200 * mm ≤ j ∧ j < 620 + 200 * mm) → f' j = f j) (h0 : f (496 + 200 * mm) = 0) {cc : ab_Cl} (hc : cc ∈ ab_c37) (h : ab_hd ws (.inl (cA, 7900, .inl f)) cc) : ab_hd ws' (.inl (cA, 7900, .inl f')) cc := by
  have hm := List.all_eq_true.mp (ab_c37m_at h1 h3) cc hc
  rw [Bool.or_eq_true] at hm
  rcases hm with hm | hm
  · intro hg
    exfalso
    obtain ⟨gg, hgg, h9⟩ := List.any_eq_true.mp hm
    rw [Bool.and_eq_true, Bool.and_eq_true, decide_eq_true_eq] at h9
    obtain ⟨⟨g1, g2⟩, g3⟩ := h9
    obtain ⟨x, hx, x1, x2⟩ := hg gg hgg
    obtain ⟨⟨t1, t2, t3, t4⟩, lo9, hi9⟩ := gg
    have e1 : t1 = 1 := Nat.eq_of_beq_eq_true g1
    have e2 : t2 = 496 + 200 * mm := Nat.eq_of_beq_eq_true g2
    subst e1; subst e2
    have hx' : (if 496 + 200 * mm < 7900 then some (f' (496 + 200 * mm)).toInt else none) = some x := hx
    rw [if_pos (by omega), heq _ (by omega), h0] at hx'
    have hx9 : (0 : Int) = x := Option.some.inj hx'
    dsimp only at g3 x1
    omega
  · refine ab_hd_same2 (fun rr hr => ?_) h
    have h9 := List.all_eq_true.mp hm rr hr
    rw [Bool.and_eq_true, Bool.or_eq_true, Bool.or_eq_true, Bool.and_eq_true, Bool.and_eq_true] at h9
    obtain ⟨t1, t2, t3, t4⟩ := rr
    dsimp only at h9
    have ho : ¬ (540 + 200 * mm ≤ t2 ∧ t2 < 620 + 200 * mm) := by
      rcases h9.1 with h8 | h8
      · have h7 : t2 < 540 + 200 * mm := Nat.le_of_ble_eq_true h8
        omega
      · have h7 : 620 + 200 * mm ≤ t2 := Nat.le_of_ble_eq_true h8
        omega
    rcases h9.2 with h8 | ⟨h8, h7, h6⟩
    · have e1 : t1 = 1 := Nat.eq_of_beq_eq_true h8
      subst e1
      show (if t2 < 7900 then some (f' t2).toInt else none) = (if t2 < 7900 then some (f t2).toInt else none)
      rw [heq t2 ho]
    · have e1 : t1 = 4 := Nat.eq_of_beq_eq_true h8
      subst e1
      have h6' : t3 < 4 := Nat.le_of_ble_eq_true h6
      have h7' : t3 ≠ mm := by
        rintro rfl
        rw [Nat.beq_refl] at h7
        cases h7
      show (if (t2 < 7900 ∧ 1580 ≤ 7900 ∧ t3 < 4) ∧ 0 ≤ (f' t2).toInt ∧ (f' t2).toInt ≤ 19 then some (f' (540 + 200 * t3 + 4 * (f' t2).toInt.toNat)).toInt else none) = (if (t2 < 7900 ∧ 1580 ≤ 7900 ∧ t3 < 4) ∧ 0 ≤ (f t2).toInt ∧ (f t2).toInt ≤ 19 then some (f (540 + 200 * t3 + 4 * (f t2).toInt.toNat)).toInt else none)
      rw [heq t2 ho]
      by_cases hif : (t2 < 7900 ∧ 1580 ≤ 7900 ∧ t3 < 4) ∧ 0 ≤ (f t2).toInt ∧ (f t2).toInt ≤ 19
      · rw [if_pos hif, if_pos hif, heq _ (by omega)]
      · rw [if_neg hif, if_neg hif]
def ab_sck (rk : List Nat) (mm : Nat) (g : ab_F) : Bool := match ee_nth rk g.1 with
  | some κ => !Nat.beq κ (nat_lit 37) || ((Nat.beq g.2.1.1 (nat_lit 2) || Nat.beq g.2.1.1 (nat_lit 6)) || (decide (g.2.1.2.2.1 = 0) && ((Nat.beq g.2.1.1 (nat_lit 8) && decide (1 ≤ g.2.1.2.2.2)) || (Nat.beq g.2.1.1 (nat_lit 1) && (decide (g.2.1.2.2.2 < 540 + 200 * (mm : Int)) || decide (620 + 200 * (mm : Int) ≤ g.2.1.2.2.2))))))
  | none => false
def ab_scf (rk : List Nat) (mm : Nat) : List ab_F → List ab_F
  | [] => []
  | g :: fs => bif ab_sck rk mm g then g :: ab_scf rk mm fs else ab_scf rk mm fs
theorem ab_scf_in {rk : List Nat} {mm : Nat} : ∀ {fs : List ab_F} {g : ab_F}, g ∈ ab_scf rk mm fs → g ∈ fs ∧ ab_sck rk mm g = true
  | [], g, h => by cases h
  | q :: fs, g, h => by
    unfold ab_scf at h
    cases hc : ab_sck rk mm q with
    | false =>
      rw [ee_cf hc] at h
      exact ⟨List.mem_cons_of_mem _ (ab_scf_in h).1, (ab_scf_in h).2⟩
    | true =>
      rw [ee_ct hc] at h
      rcases List.mem_cons.mp h with rfl | h
      · exact ⟨List.mem_cons_self, hc⟩
      · exact ⟨List.mem_cons_of_mem _ (ab_scf_in h).1, (ab_scf_in h).2⟩
def ab_osc : ab_S → Option (List ab_S)
  | (pc, [.inr (.inl 1), a1, .inl ga, .inl g3], [], h, ce, sl) => (match ab_rfn (ab_ff h.2.2.2.1 (nat_lit 0) (nat_lit 0, nat_lit 0, 0, 0)), ab_rfn (ab_ff h.2.2.2.1 (nat_lit 0) (nat_lit 0, nat_lit 10, 0, 0)), ab_rfi (ab_ff h.2.2.2.1 (nat_lit 0) (nat_lit 0, nat_lit 9, 0, 0)) with
    | some r1, some q1, some Lf => (match ee_nth h.2.2.1 (nat_lit 0), ee_nth h.2.2.1 r1, ee_nth h.2.2.1 q1 with
      | some k0, some k1, some k2 => ee_f (Int.toNat ((ga.2.2 - 470) / 200)) fun mm => (match ab_fsr q1 (nat_lit 4) h.2.2.2.1, ab_rfi (ab_ff h.2.2.2.1 r1 (nat_lit 1, nat_lit 0, 0, 496 + 200 * (mm : Int))), ab_bd h.1 Lf with
        | some kf, some sf, some pL => (match ab_bd h.1 sf with
          | some ps => bif ((Nat.beq k0 (nat_lit 38) && (Nat.beq k1 (nat_lit 37) && Nat.beq k2 (nat_lit 40))) && ((decide (ga.2.1 = 0) && decide (ga.2.2 = 470 + 200 * (mm : Int))) && (Nat.ble (nat_lit 1) mm && Nat.ble mm (nat_lit 3)))) && (((decide (g3.2.1 = 0) && decide (g3.2.2 = 0)) && (decide (0 ≤ pL.1) && decide (pL.2 ≤ 20))) && ((decide (ps.1 = 0) && decide (ps.2 = 0)) && (ab_leq kf Lf && (match h.2.2.2.2 with
            | [] => true
            | _ => false)))) then some [(nat_lit 126, [.inr (.inl (nat_lit 1)), a1, .inl ga, .inl (nat_lit 0, 0, 80)], [], (h.1, h.2.1, h.2.2.1, ab_scf h.2.2.1 mm h.2.2.2.1, []), ce, sl)] else none
          | none => none)
        | _, _, _ => none)
      | _, _, _ => none)
    | _, _, _ => none)
  | _ => none
section OSC
variable {cls : Nat → List ab_Cl} {p : Program} {l : Launch} {e : Env} {R : Room} {s : State} {m : MethodId} {args : Array Value} {below : List Frame} {meth : Method} {c : Code} {Q : State → Prop} {D : va_G} {dA : Nat → ClassId} {xa : List Nat} {xt : ee_X} {B : Nat} {rv0 : List Int} {sv0 : ab_B}
variable {r : List ab_A × List ab_A × ab_H × Nat × Nat} {L : List ab_S}
theorem sm_9 {y pc a b n : Nat} {H : Heap} {locs : List Loc} {cells slots : Nat} {ls : Array Slot} {vs : List Value} (hC : ee_C p s m args meth c D dA xa xt B y) (hs : ee_sc y pc (9, a, b, n) = true) {nL : Nat} {lv : List (Nat × Value)} {x : Int32} (hl : lv_has ls nL lv) (hm : (a, Value.int x) ∈ lv) (ha : a < nL)
    (k : ∀ ls', lv_has ls' nL ((a, .int (x + ee_x b)) :: lv.filter (fun q => !(q.1 == a) && !(q.1 + 1 == a && q.2.category == 2))) → W p l e R s m args below meth c H locs cells slots Q (F0 m (pc + n) ls' vs)) : W p l e R s m args below meth c H locs cells slots Q (F0 m pc ls vs) := by
  obtain ⟨q, hq, hd, hn, hx, -⟩ := ee_sc_spec hs
  obtain ⟨he, hb, -⟩ := id hC
  obtain ⟨kk, hkk⟩ := List.getElem?_of_mem hm
  cases (show some (Instr.iinc a ((b : Int) - 2147483648), 3) = some q from hq)
  cases hn
  exact lv_iinc (v := x + ee_x b) he hb hd hl hkk rfl ha rfl k
theorem ab_fldi2 {ks : List Nat} {ws : va_W} {rv : List Int} {sv : List (Nat × Nat)} {h : ab_H} (hG : ab_G cls dA xa ks ws rv sv h) {i j : Nat} {g : ab_L} (hf : ab_rfi (ab_ff h.2.2.2.1 i (0, j, 0, 0)) = some g) {w : Nat × Nat} {ci : Nat} {vs9 : List Value} (w1 : sv[i]? = some w) (w3 : ws[w.1]? = some (w.2, .inr (ci, vs9))) : ∃ x : Int32, vs9[j]? = some (.int x) ∧ ab_ev rv g = some x.toInt := by
  cases hff : ab_ff h.2.2.2.1 i (0, j, 0, 0) with
  | none => rw [hff] at hf; cases hf
  | some a =>
    rw [hff] at hf
    match a, hf, hff with
    | .inl g9, hf, hff =>
      have e9 : g9 = g := Option.some.inj hf
      subst e9
      obtain ⟨qa, ea, ia, va, f1, f2, f3, f4, x9, rfl, hx9⟩ := hG.2.2.2.1 _ (ab_ff_in hff)
      have f1' : sv[i]? = some qa := f1
      rw [w1] at f1'
      cases f1'
      rw [w3] at f2
      cases f2
      have f3' : some ((j : Nat) : Int) = some ia := f3
      cases f3'
      have f4' : vs9[((j : Nat) : Int).toNat]? = some (.int x9) := f4
      rw [Int.toNat_natCast] at f4'
      exact ⟨x9, f4', hx9⟩
    | .inr _, hf, _ => cases hf
theorem ab_fact_upd {ws : va_W} {rv : List Int} {sv : List (Nat × Nat)} {kk ax : Nat} {e1 e2 : va_E} (hk : ws[kk]? = some (ax, e1)) {f9 : ab_F} (hf : ab_fact rv sv xa ws f9) (hs : ∀ ii v, sv[f9.1]? = some (kk, ax) → ab_ki rv f9.2.1 = some ii → ab_rd e1 f9.2.1.1 ii = some v → ab_rd e2 f9.2.1.1 ii = some v) : ab_fact rv sv xa (ws.set kk (ax, e2)) f9 := by
  obtain ⟨q, e9, i, v, f1, f2, f3, f4, f5⟩ := hf
  by_cases hq : q.1 = kk
  · obtain ⟨q1, q2⟩ := q
    have hq' : q1 = kk := hq
    subst hq'
    rw [hk] at f2
    cases f2
    exact ⟨(q1, _), e2, i, v, f1, List.getElem?_set_self (List.getElem?_eq_some_iff.mp hk).1, f3, hs i v f1 f3 f4, f5⟩
  · exact ⟨q, e9, i, v, f1, by rw [List.getElem?_set_ne (fun z => hq z.symm)]; exact f2, f3, f4, f5⟩
theorem ab_leq_ev {rv : List Int} {f g : ab_L} {x : Int} (h : ab_leq f g = true) (hx : ab_ev rv g = some x) : ab_ev rv f = some x := by rw [ab_leq_eq h]; exact hx
theorem as_sc (hm37 : sv0.2.2.1 37 = true) (hC : ee_C p s m args meth c D dA xa xt B 12) (h : ab_osc (83, r) = some L) (k : ∀ S ∈ L, ab_WS ab_cls p l e R s m args below meth c Q D dA xa B rv0 sv0 12 S) : ab_WS ab_cls p l e R s m args below meth c Q D dA xa B rv0 sv0 12 (83, r) := by
  unfold ab_osc at h
  split at h
  · rename_i pc' a1 ga g3 hh ce sl heq
    cases heq
    split at h
    · rename_i r1 q1 Lf hr1 hq1 hLf
      split at h
      · rename_i k0 k1 k2 hk0 hk1 hk2
        rw [ee_f_eq] at h
        generalize hmm : Int.toNat ((ga.2.2 - 470) / 200) = mm at h
        split at h
        · rename_i kf sf pL hkf hsf hpL
          split at h
          · rename_i ps hps
            obtain ⟨hc, hfr⟩ := ab_bif h
            cases hfr
            have k := k _ List.mem_cons_self
            simp only [Bool.and_eq_true, decide_eq_true_eq] at hc
            obtain ⟨⟨⟨c1, c2, c3⟩, ⟨c4, c5⟩, c6, c7⟩, ⟨⟨c8, c9⟩, c10, c11⟩, ⟨c12, c13⟩, c14, c15⟩ := hc
            have e0 : k0 = 38 := Nat.eq_of_beq_eq_true c1
            have e1 : k1 = 37 := Nat.eq_of_beq_eq_true c2
            have e2 : k2 = 40 := Nat.eq_of_beq_eq_true c3
            subst e0; subst e1; subst e2
            have m1 : 1 ≤ mm := Nat.le_of_ble_eq_true c6
            have m3 : mm ≤ 3 := Nat.le_of_ble_eq_true c7
            have hdt : hh.2.2.2.2 = [] := by
              split at c15
              · assumption
              · cases c15
            rw [ee_nth_eq] at hk0 hk1 hk2
            intro ks ws rv sv H locs ls vs hr0 hs0 hG hP hD hS hl hv
            have hG : ab_G ab_cls dA xa ks ws rv sv hh := hG
            have hl : ab_lo rv sv xa ls 4 [.inr (.inl 1), a1, .inl ga, .inl g3] := hl
            match vs, hv with
            | [], _ =>
              obtain ⟨w0, e0, i1, i2, i3⟩ := hG.2.2.1.2 0 38 hk0
              obtain ⟨a9, e9, u1, u2⟩ := hG.2.2.2.2.1.2 _ 38 i2
              rw [i3] at u1
              cases u1
              obtain ⟨ts9, hts9⟩ : ∃ ts9, ab_ko 38 = some (11, ts9) := ⟨_, rfl⟩
              obtain ⟨vs9, rfl, -, -⟩ := u2.1 _ _ hts9
              obtain ⟨wr, p1, p2⟩ := ab_fldr2 hG hr1 i1 i3
              obtain ⟨wq, t1, t2⟩ := ab_fldr2 hG hq1 i1 i3
              obtain ⟨xL, l1, l2⟩ := ab_fldi2 hG hLf i1 i3
              obtain ⟨wr', N, g, y1, y2, y3, y4, y5, y6, ycell⟩ := ab_int_cell hG hk1 ab_ka37 rfl
              rw [p1] at y1
              cases y1
              have eN : N = 7900 := by
                have h8 : (7900 : Int) ≤ N := y4
                have h9 : (N : Int) ≤ 7900 := y5
                omega
              subst eN
              obtain ⟨wq', N2, rd, z1, z2, z3, z4, z5, -, -⟩ := ab_int_cell hG hk2 (show ab_ka 40 = some (0, 80, 80) by decide +kernel) rfl
              rw [t1] at z1
              cases z1
              have eN2 : N2 = 80 := by
                have h8 : (80 : Int) ≤ N2 := z4
                have h9 : (N2 : Int) ≤ 80 := z5
                omega
              subst eN2
              -- numbers
              have bL := ab_bd_in hG.1 hpL l2
              have exL := ab_i_nI (x := xL) (by omega)
              generalize hLv : xL.toInt.toNat = Lv at exL
              have hLv20 : Lv ≤ 20 := by omega
              have l2' : ab_ev rv Lf = some (Lv : Int) := by
                rw [l2, ← hLv]
                congr 1
                omega
              subst exL
              -- the rows that were read
              have hrows : ∀ l9 : Nat, l9 < Lv → ab_row7 rd 0 l9 := by
                obtain ⟨a7, m7⟩ := ab_fsr_in hkf
                obtain ⟨qa, ea, ia, va, f1, f2, f3, f4, f5⟩ := hG.2.2.2.1 _ m7
                have f1' : sv[q1]? = some qa := f1
                rw [t1] at f1'
                cases f1'
                rw [z3] at f2
                cases f2
                have f3' : ab_ev rv kf = some ia := f3
                rw [ab_leq_ev c14 l2'] at f3'
                have eia : (Lv : Int) = ia := Option.some.inj f3'
                subst eia
                obtain ⟨⟨cA, n9, f9, h8, h7⟩, -⟩ := ab_rd_q2 (t := 1) f4
                cases h8
                intro l9 hl9
                exact (h7 l9 (by omega)).2
              -- STORE of this thread is 0
              have hst0 : g (496 + 200 * mm) = 0 := by
                cases hff : ab_ff hh.2.2.2.1 r1 (1, 0, 0, 496 + 200 * (mm : Int)) with
                | none => rw [show ab_ff hh.2.2.2.1 r1 (nat_lit 1, nat_lit 0, 0, 496 + 200 * (mm : Int)) = none from hff] at hsf; cases hsf
                | some a =>
                  rw [show ab_ff hh.2.2.2.1 r1 (nat_lit 1, nat_lit 0, 0, 496 + 200 * (mm : Int)) = some a from hff] at hsf
                  match a, hsf, hff with
                  | .inr _, hsf, _ => cases hsf
                  | .inl g9, hsf, hff =>
                    have e9 : g9 = sf := Option.some.inj hsf
                    subst e9
                    obtain ⟨qa, ea, ia, va, f1, f2, f3, f4, x9, rfl, hx9⟩ := hG.2.2.2.1 _ (ab_ff_in hff)
                    have f1' : sv[r1]? = some qa := f1
                    rw [p1] at f1'
                    cases f1'
                    rw [y3] at f2
                    cases f2
                    have f3' : ab_ev rv (0, 0, 496 + 200 * (mm : Int)) = some ia := f3
                    rw [ab_ev0 rfl] at f3'
                    have eia : (496 + 200 * (mm : Int)) = ia := Option.some.inj f3'
                    subst eia
                    have f4' : (if 0 ≤ (496 + 200 * (mm : Int)) ∧ (496 + 200 * (mm : Int)) < ((7900 : Nat) : Int) then some (Value.int (g (496 + 200 * (mm : Int)).toNat)) else none) = some (.int x9) := f4
                    rw [if_pos (by omega), show (496 + 200 * (mm : Int)).toNat = 496 + 200 * mm by omega] at f4'
                    have e8 : g (496 + 200 * mm) = x9 := by
                      have h9 := Option.some.inj f4'
                      injection h9
                    have b9 := ab_bd_in hG.1 hps hx9
                    rw [e8]
                    apply Int32.toInt_inj.mp
                    show x9.toInt = 0
                    omega
              have hsr : ab_sr g := by
                obtain ⟨cA, n9, f9, h9, h8⟩ := ycell.2.2.2 rfl
                cases h9
                exact h8
              have hlt : wr.1 < ws.length := (List.getElem?_eq_some_iff.mp y3).1
              have hne0 : wr.1 ≠ w0.1 := by
                intro z
                rw [z, i3] at y3
                have h9 := (Prod.mk.inj (Option.some.inj y3)).2
                cases h9
              have hneq : wr.1 ≠ wq.1 := by
                intro z
                rw [z, z2] at y2
                cases y2
              -- at the end of the loop
              have fin : ∀ (gi : Nat → Int32) (H : Heap) (locs : List Loc) (ls9 : Array Slot), (∀ j, gi j = if 540 + 200 * mm ≤ j ∧ j < 540 + 200 * mm + 80 then (if j - (540 + 200 * mm) < 4 * Lv then rd (j - (540 + 200 * mm)) else 0) else g j) → va_P D ee_cl (ws.set wr.1 (wr.2, .inl (dA 0, 7900, .inl gi))) H → va_D (fun q => B ≤ q) (ws.set wr.1 (wr.2, .inl (dA 0, 7900, .inl gi))) → va_S (fun q => B ≤ q) s.heap H locs → ab_lo rv sv xa ls9 4 [.inr (.inl 1), a1, .inl ga, .inl (0, 0, 80)] → W p l e R s m args below meth c H locs (ce + (ab_ph sv0.2.2.2.1 ks ws / 1024 - sv0.2.2.2.2.2 / 1024)) (sl + (ab_ph sv0.2.2.2.1 ks ws - sv0.2.2.2.2.2)) Q (F0 m 126 ls9 []) := by
                intro gi H locs ls9 hgi hP1 hD1 hS1 hl9
                have hout : ∀ j, ¬ (540 + 200 * mm ≤ j ∧ j < 620 + 200 * mm) → gi j = g j := fun j hj => by rw [hgi, if_neg (by omega)]
                have hset : (ws.set wr.1 (wr.2, (.inl (dA 0, 7900, .inl gi) : va_E)))[wr.1]? = some (wr.2, .inl (dA 0, 7900, .inl gi)) := List.getElem?_set_self hlt
                have hsr2 : ab_sr gi := by
                  intro t ht l9 hl20
                  by_cases htm : t = mm
                  · subst htm
                    by_cases hlL : l9 < Lv
                    · have h9 := hrows l9 hlL
                      have ee : ∀ z, z < 4 → gi (540 + 200 * t + 4 * l9 + z) = rd (0 + 4 * l9 + z) := by
                        intro z hz
                        rw [hgi, if_pos (by omega), if_pos (by omega)]
                        congr 1
                        omega
                      unfold ab_row7 at h9 ⊢
                      have q0 := ee 0 (by decide)
                      rw [Nat.add_zero, Nat.add_zero] at q0
                      rw [q0, ee 1 (by decide), ee 2 (by decide), ee 3 (by decide)]
                      exact h9
                    · have ee : ∀ z, z < 4 → gi (540 + 200 * t + 4 * l9 + z) = 0 := by
                        intro z hz
                        rw [hgi, if_pos (by omega), if_neg (by omega)]
                      unfold ab_row7
                      have q0 := ee 0 (by decide)
                      rw [Nat.add_zero] at q0
                      rw [q0, ee 1 (by decide), ee 2 (by decide), ee 3 (by decide)]
                      decide +kernel
                  · have h9 := hsr t ht l9 hl20
                    unfold ab_row7 at h9 ⊢
                    rw [hout (540 + 200 * t + 4 * l9) (by omega), hout (540 + 200 * t + 4 * l9 + 1) (by omega), hout (540 + 200 * t + 4 * l9 + 2) (by omega), hout (540 + 200 * t + 4 * l9 + 3) (by omega)]
                    exact h9
                have hcell : ab_cell dA ks (ws.map (·.1)) 37 (.inl (dA 0, 7900, .inl gi)) := by
                  refine ⟨fun ci ts h9 => (by rw [ab_ko37] at h9; cases h9), fun t9 lo9 hi9 h9 => ?_, fun h9 => absurd h9 (by decide), fun _ => ⟨_, 7900, gi, rfl, hsr2⟩⟩
                  rw [ab_ka37] at h9
                  cases h9
                  refine Or.inl ⟨Or.inl rfl, 7900, gi, rfl, by decide, by decide, fun j hj => ?_⟩
                  by_cases hja : 540 + 200 * mm ≤ j ∧ j < 620 + 200 * mm
                  · obtain ⟨q, q1, q2⟩ := ab_kes_at (mm := mm) (k := j - (540 + 200 * mm)) m1 m3 (by omega)
                    rw [show 540 + 200 * mm + (j - (540 + 200 * mm)) = j by omega] at q1
                    have q1' : ab_ke 37 j = .inl q := q1
                    rw [q1']
                    refine ⟨gi j, rfl, ?_⟩
                    rcases q2 with ⟨q3, q4, q5⟩ | ⟨q3, q4, q5⟩
                    · have h9 := (hsr2 mm (by omega) ((j - (540 + 200 * mm)) / 4) (by omega)).1
                      rw [show 540 + 200 * mm + 4 * ((j - (540 + 200 * mm)) / 4) + 1 = j by omega] at h9
                      omega
                    · have h9 := ab_i32 (gi j)
                      omega
                  · rw [hout j hja]
                    exact y6 j hj
                have hG1 : ab_G ab_cls dA xa ks (ws.set wr.1 (wr.2, .inl (dA 0, 7900, .inl gi))) rv sv (hh.1, hh.2.1, hh.2.2.1, ab_scf hh.2.2.1 mm hh.2.2.2.1, []) := by
                  have hCL := hG.2.2.2.2.2
                  rw [hdt] at hCL
                  refine ⟨hG.1, hG.2.1, ab_Kn_set hG.2.2.1 y3, fun g9 h9 => ?_, ab_TW_arr hG.2.2.2.2.1 y3 y2 hcell, ab_CL_w hCL ab_hcok hG.2.2.2.2.1 hD y3 y2 (by decide) (fun cc hc => ab_hd_m m1 m3 hout hst0 (by rw [← ab_cls37]; exact hc) (hCL _ 37 _ _ y2 y3 cc hc (fun pp _ ho => by
                    obtain ⟨d9, hd9, -⟩ := ho
                    cases hd9)))⟩
                  obtain ⟨h8, h7⟩ := ab_scf_in h9
                  refine ab_fact_upd y3 (hG.2.2.2.1 g9 h8) (fun ii v hsv hki hrd => ?_)
                  unfold ab_sck at h7
                  split at h7
                  · rename_i κ9 hκ9
                    rw [ee_nth_eq] at hκ9
                    obtain ⟨q5, e5, b1, b2, b3⟩ := hG.2.2.1.2 _ κ9 hκ9
                    rw [hsv] at b1
                    cases b1
                    rw [y2] at b2
                    cases b2
                    simp only [Bool.or_eq_true, Bool.and_eq_true, decide_eq_true_eq] at h7
                    obtain ⟨gr, ⟨gt, gf⟩, ga9⟩ := g9
                    dsimp only at h7 hki hrd ⊢
                    rcases h7 with h7 | (h7 | h7) | ⟨h6, ⟨h7, h5⟩ | ⟨h7, h5⟩⟩
                    · cases h7
                    · have e7 : gt = 2 := Nat.eq_of_beq_eq_true h7
                      subst e7
                      exact hrd
                    · have e7 : gt = 6 := Nat.eq_of_beq_eq_true h7
                      subst e7
                      obtain ⟨⟨cA, n9, f9, d8, d7⟩, rfl⟩ := ab_rd_q2 (t := 3) hrd
                      cases d8
                      refine ab_rd_q (t := 3) ⟨dA 0, 7900, gi, rfl, rfl, fun b hb5 cc hcc => ?_⟩
                      have hcl : cc < 540 + 200 * mm ∨ 620 + 200 * mm ≤ cc := by
                        simp only [ab_cn, List.mem_cons, List.not_mem_nil, or_false] at hcc
                        omega
                      have hc15 := ab_cn_lt cc hcc
                      rw [hout (1580 * b + cc) (by
                        by_cases hb0 : b = 0
                        · subst hb0
                          omega
                        · omega)]
                      exact d7.2 b hb5 cc hcc
                    · have e7 : gt = 8 := Nat.eq_of_beq_eq_true h7
                      subst e7
                      obtain ⟨⟨cA, n9, f9, d8, d7⟩, rfl⟩ := ab_rd_q2 (t := 5) hrd
                      cases d8
                      have hki' : ab_ev rv gf = some ii := hki
                      rw [ab_ev0 h6] at hki'
                      have eii : gf.2.2 = ii := Option.some.inj hki'
                      refine ab_rd_q (t := 5) ⟨dA 0, 7900, gi, rfl, rfl, ?_⟩
                      refine ab_gd_blk (fun j hj => ?_) d7.2
                      exact hout _ (by omega)
                    · have e7 : gt = 1 := Nat.eq_of_beq_eq_true h7
                      subst e7
                      have hki' : ab_ev rv gf = some ii := hki
                      rw [ab_ev0 h6] at hki'
                      have eii : gf.2.2 = ii := Option.some.inj hki'
                      have hrd' : (if 0 ≤ ii ∧ ii < ((7900 : Nat) : Int) then some (Value.int (g ii.toNat)) else none) = some v := hrd
                      show (if 0 ≤ ii ∧ ii < ((7900 : Nat) : Int) then some (Value.int (gi ii.toNat)) else none) = some v
                      rw [hout ii.toNat (by omega)]
                      exact hrd'
                  · cases h7
                have hpx : ab_px sv0 ks (ws.set wr.1 (wr.2, .inl (dA 0, 7900, .inl gi))) sv := ab_px_set hs0 y3 y2 hm37 (ab_sm_in (fun _ i hi => hout i (by rcases hi with ⟨hi, -⟩ | ⟨hi, -⟩ <;> omega))) (ab_ph_st y3)
                have k9 := k ks _ rv sv H locs ls9 [] hr0 hpx hG1 hP1 hD1 hS1 hl9 trivial
                dsimp only at k9
                rw [ab_ph_st y3] at k9
                exact k9
              have loop : ∀ (n i : Nat), i + n = 80 → ∀ (gi : Nat → Int32) (H : Heap) (locs : List Loc) (ls9 : Array Slot), (∀ j, gi j = if 540 + 200 * mm ≤ j ∧ j < 540 + 200 * mm + i then (if j - (540 + 200 * mm) < 4 * Lv then rd (j - (540 + 200 * mm)) else 0) else g j) → va_P D ee_cl (ws.set wr.1 (wr.2, .inl (dA 0, 7900, .inl gi))) H → va_D (fun q => B ≤ q) (ws.set wr.1 (wr.2, .inl (dA 0, 7900, .inl gi))) → va_S (fun q => B ≤ q) s.heap H locs → ab_lo rv sv xa ls9 4 [.inr (.inl 1), a1, .inl ga, .inl (0, 0, (i : Int))] → W p l e R s m args below meth c H locs (ce + (ab_ph sv0.2.2.2.1 ks ws / 1024 - sv0.2.2.2.2.2 / 1024)) (sl + (ab_ph sv0.2.2.2.1 ks ws - sv0.2.2.2.2.2)) Q (F0 m 83 ls9 []) := by
                intro n
                induction n with
                | zero =>
                  intro i hin gi H locs ls9 hgi hP1 hD1 hS1 hl9
                  have ei : i = 80 := by omega
                  subst ei
                  obtain ⟨x3, b3, o3⟩ := ab_lo_get hl9 (i := 3) (a := .inl (0, 0, ((80 : Nat) : Int))) rfl (fun h9 => by cases h9)
                  obtain ⟨xx, rfl, hxx⟩ := o3
                  have exx : xx = nI 80 := by
                    have h6 : ab_ev rv (0, 0, ((80 : Nat) : Int)) = some ((80 : Nat) : Int) := ab_ev0 rfl
                    rw [h6] at hxx
                    apply Int32.toInt_inj.mp
                    rw [nI_toInt (by omega)]
                    exact (Option.some.inj hxx).symm
                  subst exx
                  refine sm_1 hC (show ee_sc 12 83 (1, 3, 1, 1) = true by decide +kernel) b3 ?_
                  refine sm_5 hC (show ee_sc 12 84 (5, 2147483728, 1, 2) = true by decide +kernel) (fun _ => ?_)
                  rw [show ee_x 2147483728 = nI 80 by decide +kernel]
                  exact sm_44 hC (show ee_sc 12 86 (44, 3, 126, 3) = true by decide +kernel) (fun _ => fin gi H locs ls9 hgi hP1 hD1 hS1 hl9) (fun h9 => absurd (show ¬ nI 80 < nI 80 by decide +kernel) h9)
                | succ n ih =>
                  intro i hin gi H locs ls9 hgi hP1 hD1 hS1 hl9
                  have w0' : (ws.set wr.1 (wr.2, (.inl (dA 0, 7900, .inl gi) : va_E)))[w0.1]? = some (w0.2, .inr (11, vs9)) := by rw [List.getElem?_set_ne hne0]; exact i3
                  have wq' : (ws.set wr.1 (wr.2, (.inl (dA 0, 7900, .inl gi) : va_E)))[wq.1]? = some (wq.2, .inl (dA 0, 80, .inl rd)) := by rw [List.getElem?_set_ne hneq]; exact z3
                  have wr' : (ws.set wr.1 (wr.2, (.inl (dA 0, 7900, .inl gi) : va_E)))[wr.1]? = some (wr.2, .inl (dA 0, 7900, .inl gi)) := List.getElem?_set_self hlt
                  obtain ⟨x0, b0, o0⟩ := ab_lo_get hl9 (i := 0) (a := .inr (.inl 1)) rfl (fun h9 => by cases h9)
                  obtain ⟨qq, d1, rfl⟩ := ab_nnul (z := 0) rfl o0
                  have d1' : sv[0]? = some qq := d1
                  rw [i1] at d1'
                  cases d1'
                  obtain ⟨x2, b2, o2⟩ := ab_lo_get hl9 (i := 2) (a := .inl ga) rfl (fun h9 => by cases h9)
                  obtain ⟨xg, rfl, hxg⟩ := o2
                  have exg : xg = nI (470 + 200 * mm) := by
                    rw [ab_ev0 c4] at hxg
                    apply Int32.toInt_inj.mp
                    rw [nI_toInt (by omega), ← Option.some.inj hxg, c5]
                    omega
                  subst exg
                  obtain ⟨hlen, lv, hlv, hall⟩ := id hl9
                  rcases hall 3 _ rfl with hbad | ⟨v3, hmem, xx, rfl, hxx⟩
                  · cases hbad
                  have exx : xx = nI i := by
                    have h6 : ab_ev rv (0, 0, (i : Int)) = some (i : Int) := ab_ev0 rfl
                    rw [h6] at hxx
                    apply Int32.toInt_inj.mp
                    rw [nI_toInt (by omega)]
                    exact (Option.some.inj hxx).symm
                  subst exx
                  have b3 : ls9[3]? = some (.val (.int (nI i))) := hlv.2.2 _ hmem
                  refine sm_1 hC (show ee_sc 12 83 (1, 3, 1, 1) = true by decide +kernel) b3 ?_
                  refine sm_5 hC (show ee_sc 12 84 (5, 2147483728, 1, 2) = true by decide +kernel) (fun _ => ?_)
                  rw [show ee_x 2147483728 = nI 80 by decide +kernel]
                  refine sm_44 hC (show ee_sc 12 86 (44, 3, 126, 3) = true by decide +kernel) (fun h9 => absurd (nI_lt (a := i) (b := 80) (by omega) (by decide)) h9) (fun _ => ?_)
                  refine sm_2 hC (show ee_sc 12 89 (2, 0, 1, 1) = true by decide +kernel) (Or.inr ⟨_, rfl⟩) b0 ?_
                  refine sm_25 hC (show ee_sc 12 90 (25, 7, 704, 3) = true by decide +kernel) hP1 w0' p2 ?_
                  refine sm_1 hC (show ee_sc 12 93 (1, 2, 1, 1) = true by decide +kernel) b2 ?_
                  refine sm_5 hC (show ee_sc 12 94 (5, 2147483718, 1, 2) = true by decide +kernel) (fun _ => ?_)
                  rw [show ee_x 2147483718 = nI 70 by decide +kernel]
                  refine sm_10 (op := 10) (by decide) (by decide) hC (show ee_sc 12 96 (10, 0, 0, 1) = true by decide +kernel) (fun h9 => absurd h9 (by decide)) ?_
                  refine sm_1 hC (show ee_sc 12 97 (1, 3, 1, 1) = true by decide +kernel) b3 ?_
                  refine sm_10 (op := 10) (by decide) (by decide) hC (show ee_sc 12 98 (10, 0, 0, 1) = true by decide +kernel) (fun h9 => absurd h9 (by decide)) ?_
                  have eix : ee_fo 10 (ee_fo 10 (nI (470 + 200 * mm)) (nI 70)) (nI i) = nI (540 + 200 * mm + i) := by
                    show nI (470 + 200 * mm) + nI 70 + nI i = _
                    rw [nI_add, nI_add]
                    congr 1
                    omega
                  rw [eix]
                  have st : ∀ v : Int32, v = (if i < 4 * Lv then rd i else 0) → W p l e R s m args below meth c H locs (ce + (ab_ph sv0.2.2.2.1 ks ws / 1024 - sv0.2.2.2.2.2 / 1024)) (sl + (ab_ph sv0.2.2.2.1 ks ws - sv0.2.2.2.2.2)) Q (F0 m 119 ls9 [.int v, .int (nI (540 + 200 * mm + i)), .ref wr.2]) := by
                    intro v hv9
                    refine sm_29 hC (show ee_sc 12 119 (29, 0, 0, 1) = true by decide +kernel) hP1 hD1 hS1 wr' (nI_in (by omega) (by decide)) (fun H1 locs1 hP2 hD2 hS2 => ?_)
                    rw [nI_clamp (by omega), List.set_set] at hP2 hD2
                    refine sm_9 hC (show ee_sc 12 120 (9, 3, 2147483649, 3) = true by decide +kernel) hlv hmem (by decide) (fun ls' hl' => ?_)
                    refine sm_48 hC (show ee_sc 12 123 (48, 0, 83, 3) = true by decide +kernel) ?_
                    refine ih (i + 1) (by omega) _ H1 locs1 ls' (fun j => ?_) hP2 hD2 hS2 ?_
                    · by_cases hj : j = 540 + 200 * mm + i
                      · subst hj
                        rw [pk_us, if_pos (by omega), hv9]
                        rw [show 540 + 200 * mm + i - (540 + 200 * mm) = i by omega]
                      · rw [pk_un hj, hgi]
                        by_cases hj2 : 540 + 200 * mm ≤ j ∧ j < 540 + 200 * mm + i
                        · rw [if_pos hj2, if_pos (show 540 + 200 * mm ≤ j ∧ j < 540 + 200 * mm + (i + 1) by omega)]
                        · rw [if_neg hj2, if_neg (by omega)]
                    · refine ⟨rfl, _, hl', fun z a hz => ?_⟩
                      match z, hz with
                      | 3, hz =>
                        have hz' : (.inl (0, 0, ((i + 1 : Nat) : Int)) : ab_A) = a := by simpa using hz
                        subst hz'
                        refine Or.inr ⟨_, List.mem_cons_self, _, rfl, ?_⟩
                        rw [jx_one, nI_add, nI_toInt (by omega)]
                        exact ab_ev0 rfl
                      | 0, hz =>
                        refine (hall 0 a hz).imp id (fun ⟨v, h4, h5⟩ => ⟨v, List.mem_cons_of_mem _ (List.mem_filter.mpr ⟨h4, by simp⟩), h5⟩)
                      | 1, hz =>
                        refine (hall 1 a hz).imp id (fun ⟨v, h4, h5⟩ => ⟨v, List.mem_cons_of_mem _ (List.mem_filter.mpr ⟨h4, by simp⟩), h5⟩)
                      | 2, hz =>
                        have hz' : (.inl ga : ab_A) = a := by simpa using hz
                        subst hz'
                        refine (hall 2 _ rfl).imp id (fun ⟨v, h4, h5⟩ => ⟨v, List.mem_cons_of_mem _ (List.mem_filter.mpr ⟨h4, ?_⟩), h5⟩)
                        obtain ⟨x9, rfl, -⟩ := h5
                        simp [Value.category]
                      | z + 4, hz => simp at hz
                  refine sm_1 hC (show ee_sc 12 99 (1, 3, 1, 1) = true by decide +kernel) b3 ?_
                  refine sm_5 hC (show ee_sc 12 100 (5, 2147483652, 0, 1) = true by decide +kernel) (fun _ => ?_)
                  rw [show ee_x 2147483652 = nI 4 by decide +kernel]
                  refine sm_2 hC (show ee_sc 12 101 (2, 0, 1, 1) = true by decide +kernel) (Or.inr ⟨_, rfl⟩) b0 ?_
                  refine sm_25 hC (show ee_sc 12 102 (25, 98, 713, 3) = true by decide +kernel) hP1 w0' l1 ?_
                  refine sm_10 (op := 12) (by decide) (by decide) hC (show ee_sc 12 105 (12, 0, 0, 1) = true by decide +kernel) (fun h9 => absurd h9 (by decide)) ?_
                  rw [show ee_fo 12 (nI 4) (nI Lv) = nI (4 * Lv) from pk_mul 4 Lv]
                  refine sm_44 hC (show ee_sc 12 106 (44, 3, 118, 3) = true by decide +kernel) (fun h9 => ?_) (fun h9 => ?_)
                  · refine sm_5 hC (show ee_sc 12 118 (5, 2147483648, 0, 1) = true by decide +kernel) (fun _ => ?_)
                    refine st _ ?_
                    rw [if_neg (fun z => h9 (nI_lt z (by omega)))]
                    decide +kernel
                  · have hiL : i < 4 * Lv := by
                      have h8 : nI i < nI (4 * Lv) := Classical.not_not.mp h9
                      exact (nI_ltI (by omega) (by omega)).mp h8
                    refine sm_2 hC (show ee_sc 12 109 (2, 0, 1, 1) = true by decide +kernel) (Or.inr ⟨_, rfl⟩) b0 ?_
                    refine sm_25 hC (show ee_sc 12 110 (25, 17, 714, 3) = true by decide +kernel) hP1 w0' t2 ?_
                    refine sm_1 hC (show ee_sc 12 113 (1, 3, 1, 1) = true by decide +kernel) b3 ?_
                    refine sm_28 hC (show ee_sc 12 114 (28, 0, 0, 1) = true by decide +kernel) hP1 wq' (nI_in (by omega) (by decide)) ?_
                    rw [nI_clamp (by omega)]
                    refine sm_48 hC (show ee_sc 12 115 (48, 0, 119, 3) = true by decide +kernel) ?_
                    exact st _ (by rw [if_pos hiL])
              have hself : ws.set wr.1 (wr.2, .inl (dA 0, 7900, .inl g)) = ws := by
                apply List.ext_getElem?
                intro i
                by_cases hik : i = wr.1
                · subst hik
                  rw [List.getElem?_set_self hlt, y3]
                · rw [List.getElem?_set_ne (fun z => hik z.symm)]
              show W p l e R s m args below meth c H locs (ce + (ab_ph sv0.2.2.2.1 ks ws / 1024 - sv0.2.2.2.2.2 / 1024)) (sl + (ab_ph sv0.2.2.2.1 ks ws - sv0.2.2.2.2.2)) Q (F0 m 83 ls [])
              refine loop 80 0 rfl g H locs ls (fun j => by rw [if_neg (by omega)]) (by rw [hself]; exact hP) (by rw [hself]; exact hD) hS ?_
              obtain ⟨h1, lv, h2, h3⟩ := hl
              refine ⟨h1, lv, h2, fun i a ha9 => ?_⟩
              match i, ha9 with
              | 3, ha9 =>
                have ha9' : (.inl (0, 0, ((0 : Nat) : Int)) : ab_A) = a := by simpa using ha9
                subst ha9'
                refine (h3 3 _ rfl).imp (fun z => by cases z) (fun ⟨v, h4, x9, e9, h5⟩ => ⟨v, h4, x9, e9, ?_⟩)
                rw [ab_ev0 c8, c9] at h5
                rw [ab_ev0 rfl]
                exact h5
              | 0, ha9 => exact h3 0 a ha9
              | 1, ha9 => exact h3 1 a ha9
              | 2, ha9 => exact h3 2 a ha9
              | i + 4, ha9 => simp at ha9
          · cases h
        · cases h
      · cases h
    · cases h
  · cases h
end OSC
def ab_mcL : ab_Mc := fun _ _ _ y S => bif Nat.beq y (nat_lit 12) && Nat.beq S.1 (nat_lit 83) then ab_osc S else none
theorem ab_mcL_snd {l : Launch} {D : va_G} {dA : Nat → ClassId} {xa : List Nat} {xt : ee_X} {B mask X : Nat} (hm37 : ab_wm mask 37 = true) : ab_MS ab_cls l D dA xa xt B mask X 1 ab_mcL := by
  intro p e R s m args below meth c Q rv0 sv0 y d cC cS hk hd hR hcap hmask hXX hC hyM S L h kk
  unfold ab_mcL at h
  obtain ⟨hc, h⟩ := ab_bif h
  rw [Bool.and_eq_true] at hc
  have e1 : y = 12 := Nat.eq_of_beq_eq_true hc.1
  subst e1
  obtain ⟨pc, r⟩ := S
  have e2 : pc = 83 := Nat.eq_of_beq_eq_true hc.2
  subst e2
  exact as_sc (by rw [hmask]; exact hm37) hC h kk
