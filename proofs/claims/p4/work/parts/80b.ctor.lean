/-! ===== the reference's constructor, behind its rows ===== -/
theorem ab_ka57 : ab_ka 57 = some (0, 0, 67108864) := by decide +kernel
theorem ab_ko57 : ab_ko 57 = none := by decide +kernel
theorem ab_ke57 (j : Nat) : ab_ke 57 j = .inr (.inr 0) := by
  rw [ab_ke_u (show Nat.beq 57 37 = false from rfl)]
  decide +kernel
section CTO
variable {p : Program} {l : Launch} {e : Env} {R : Room} {s : State} {m : MethodId} {args : Array Value} {below : List Frame} {meth : Method} {c : Code} {Q : State → Prop} {D : va_G} {dA : Nat → ClassId} {xa : List Nat} {xt : ee_X} {B : Nat} {rv0 : List Int} {sv0 : ab_B}
variable {r : List ab_A × List ab_A × ab_H × Nat × Nat} {L : List ab_S}
theorem ee_sta_ct {d : Nat} (hd : 2 ≤ d) {ws0 : va_W} {k ka ax aa : Nat} {vs9 : List Value} {g : Nat → Int32} (hk : ws0[k]? = some (ax, .inr (11, vs9))) (hv0 : vs9[0]? = some (.ref aa)) (hka : ws0[ka]? = some (aa, .inl (dA 0, 7900, .inl g))) : ct l D dA xa xt B d 68 0 0 (fun vs ws => vs = [.ref ax, .int 1, .int 1, .int 1, .int 1] ∧ ws = ws0)
    (fun v ws1 k9 n9 => v = none ∧ k9 = 0 ∧ n9 = 0 ∧ ∃ gi : Nat → Int32, (∀ j, gi j = if 470 ≤ j ∧ (j - 470) / 200 < 4 ∧ ((j - 470) % 200 = 20 ∨ (j - 470) % 200 = 25 ∨ (27 ≤ (j - 470) % 200 ∧ (j - 470) % 200 ≤ 31)) then -1 else if 444 ≤ j ∧ j < 444 + (24) then -1 else if 428 ≤ j ∧ j < 428 + (8) then -1 else if j = 3 then 1 else if j = 2 then 1 else if j = 1 then 1 else if j = 0 then 1 else if j < 1270 ∧ ¬((8 ≤ j ∧ j ≤ 10) ∨ (20 ≤ j ∧ j ≤ 419)) then 0 else g j) ∧ ws1 = ws0.set ka (aa, .inl (dA 0, 7900, .inl gi))) := by
  refine ct_met (by decide +kernel) (by decide +kernel) ?_ ?_
  · rintro vs ws ⟨rfl, rfl⟩
    exact (by decide : (5 : Nat) ≤ 7)
  · rintro p e s m vs below meth c ws ls hC ⟨rfl, rfl⟩ hP hD hS hlv
    have hl5 : lv_has ls 7 [(0, .ref ax), (1, .int 1), (2, .int 1), (3, .int 1), (4, .int 1)] := hlv
    refine ee_sta_all (d := d) (g := g) ⟨Nat.le_refl _, Nat.le_refl _⟩ (by omega) hC hk hv0 hka hP hD hS hl5 ?_
    intro gi H1 locs1 ls1 hgi hP1 hD1 hS1
    refine sm_53 (y := 68) (pc := 224) (a := 0) (b := 0) (n := 1) (by decide +kernel) hC (by decide +kernel) (by decide +kernel) hP1 hD1 hS1 ?_
    exact ⟨rfl, rfl, rfl, gi, hgi, rfl⟩
theorem ee_ini_row {cells slots : Nat} (hC : ee_C p s m args meth c D dA xa xt B 2) {ws : va_W} {k ax aa pc : Nat} {vs9 : List Value} {H : Heap} {locs : List Loc} {ls : Array Slot} {rest : List Value} (hk : ws[k]? = some (ax, .inr (11, vs9))) (hv0 : vs9[0]? = some (.ref aa)) (hP : va_P D ee_cl ws H) (hl : ls[0]? = some (.val (.ref ax))) (d1 : decode (ee_cb 2) pc = .ok (.aload_n 0, 1)) (d2 : decode (ee_cb 2) (pc + 1) = .ok (.getfield 7, 3))
    (kk : W p l e R s m args below meth c H locs cells slots Q (F0 m (pc + 4) ls (.ref aa :: rest))) : W p l e R s m args below meth c H locs cells slots Q (F0 m pc ls rest) := by
  obtain ⟨hx, hb, hml, hown, hts, hG, hB, -⟩ := hC
  obtain ⟨C, T, N, fs0, ecx, ecl, -, -, hin, hty, hnm, hdecl, -, -, -⟩ := ee_cls (ci := 11) (by decide)
  have hN : 0 < N := by
    have : (ee_cx 11).2.2 = 22 := by decide +kernel
    rw [ecx] at this
    show 0 < N
    have h9 : N = 22 := this
    omega
  have hlink : (Cond.fieldLink (ee_on.getD (ee_yc 2) "") 7 C (T 0).2.1 (T 0).2.2.1).before args s = true := by
    refine hts _ (ee_word (y := 2) (a := 7) (kind := 1) (b := 704) (by decide +kernel) (by decide) (by decide) (by decide) ?_)
    show some _ = some _
    rw [show (704 / 64 : Nat) = 11 from rfl, ecx]
  refine lv_aload_n hx hb d1 rfl hl ?_
  exact va_get (ci := 11) (v := .ref aa) hx hb hts hin hown hG.1 hP k hk ecl 0 hN hlink (fun x h9 => by rw [hdecl _ hN] at h9; exact h9) hv0 d2 kk
/-- facts but those of fresh rows of ints -/
def ab_ctk (rk : List Nat) (g : ab_F) : Bool := match ee_nth rk g.1 with
  | some κ => !Nat.beq κ (nat_lit 57)
  | none => false
def ab_oct (cC cS : Nat) : ab_S → Option (List ab_S)
  | (_, [.inr (.inl (z + 1))], [], h, ce, sl) => bif Nat.beq (Nat.mod z (nat_lit 2)) (nat_lit 0) && (Nat.ble ce cC && Nat.ble sl cS) then (match ee_nth h.2.2.1 (Nat.div z (nat_lit 2)), ab_rfn (ab_ff h.2.2.2.1 (Nat.div z (nat_lit 2)) (nat_lit 0, nat_lit 0, 0, 0)), ab_bd h.1 (nat_lit 0, 1, 0) with
    | some k0, some r1, some p0 => (match ab_ko k0, ee_nth h.2.2.1 r1, ab_fsr r1 (nat_lit 7) h.2.2.2.1, ab_ff h.2.2.2.1 r1 (nat_lit 2, nat_lit 0, 0, 0) with
      | some q, some k1, some f, some (.inl f2) => bif (Nat.beq q.1 (nat_lit 11) && Nat.beq k1 (nat_lit 57)) && (decide (0 ≤ p0.1) && ((decide (f.2.1 = 0) && decide (f.2.2 = 7900)) && (decide (f2.2.1 = 0) && decide (f2.2.2 = 7900)))) then some [(nat_lit 75, [.inr (.inl (Nat.succ z))], [], (h.1, h.2.1, h.2.2.1, (r1, (nat_lit 6, nat_lit 0, 0, 0), .inl (nat_lit 0, 0, 0)) :: (r1, (nat_lit 8, nat_lit 0, 0, 0), .inl (nat_lit 0, 0, 0)) :: (r1, (nat_lit 1, nat_lit 0, 0, 8), .inl (nat_lit 0, 0, 0)) :: h.2.2.2.1.filter (ab_ctk h.2.2.1), h.2.2.2.2), ce, sl)] else none
      | _, _, _, _ => none)
    | _, _, _ => none) else none
  | _ => none
theorem ee_ctT : ((List.range 1580).all fun j => !(ee_stk j || Nat.ble (nat_lit 1270) j) || (match ab_ke 37 j with
    | .inl q => bif Nat.beq j (nat_lit 10) then decide (q.1 ≤ -1) && decide (-1 ≤ q.2) else decide (q.1 ≤ 0) && decide (0 ≤ q.2)
    | .inr _ => false)) = true := by decide +kernel
theorem as_ct {d cC cS : Nat} (hm57 : sv0.2.2.1 57 = true) (hR : d ≤ R.frames ∧ 40 * d ≤ R.locals) (hd3 : 3 ≤ d) (hcap : cC + (6144 - sv0.2.2.2.2.2 / 1024) ≤ R.cells ∧ cS + (6291456 - sv0.2.2.2.2.2) ≤ R.slots) (hC : ee_C p s m args meth c D dA xa xt B 2) (h : ab_oct cC cS (59, r) = some L) (k : ∀ S ∈ L, ab_WS ab_cls p l e R s m args below meth c Q D dA xa B rv0 sv0 2 S) : ab_WS ab_cls p l e R s m args below meth c Q D dA xa B rv0 sv0 2 (59, r) := by
  unfold ab_oct at h
  split at h
  · rename_i pc' z hh ce sl heq
    cases heq
    obtain ⟨hz, h⟩ := ab_bif h
    rw [Bool.and_eq_true, Bool.and_eq_true] at hz
    obtain ⟨hz, hz1, hz2⟩ := hz
    have hce : ce ≤ cC := Nat.le_of_ble_eq_true hz1
    have hsl : sl ≤ cS := Nat.le_of_ble_eq_true hz2
    split at h
    · rename_i k0 r1 p0 hk0 hr1 hp0
      split at h
      · rename_i q k1 f f2 hq hk1 hf hf2
        obtain ⟨hc, h⟩ := ab_bif h
        cases h
        have k := k _ List.mem_cons_self
        simp only [Bool.and_eq_true, decide_eq_true_eq] at hc
        obtain ⟨⟨c1, c2⟩, c3, ⟨c4, c5⟩, c6, c7⟩ := hc
        obtain ⟨q1, q2⟩ := q
        have e0 : q1 = 11 := Nat.eq_of_beq_eq_true c1
        have e1 : k1 = 57 := Nat.eq_of_beq_eq_true c2
        subst e0; subst e1
        rw [ee_nth_eq] at hk0 hk1
        have hk0 : hh.2.2.1[z / 2]? = some k0 := hk0
        intro ks ws rv sv H locs ls vs hr0 hs0 hG hP hD hS hl hv
        have hG : ab_G ab_cls dA xa ks ws rv sv hh := hG
        have hl : ab_lo rv sv xa ls 1 [.inr (.inl (z + 1))] := hl
        match vs, hv with
        | [], _ =>
          obtain ⟨hx, hb, hml9, hown, hts, hGG, hBB, -⟩ := id hC
          obtain ⟨w0, e0, i1, i2, i3⟩ := hG.2.2.1.2 _ k0 hk0
          obtain ⟨a9, e9, u1, u2⟩ := hG.2.2.2.2.1.2 _ k0 i2
          rw [i3] at u1
          cases u1
          obtain ⟨vs9, rfl, -, -⟩ := u2.1 _ _ hq
          obtain ⟨wp, p1, p2⟩ := ab_fldr2 hG hr1 i1 i3
          obtain ⟨wp', N, f9, y1, y2, y3, y4, y5, y6, -⟩ := ab_int_cell hG hk1 ab_ka57 rfl
          rw [p1] at y1
          cases y1
          have y5 : (N : Int) ≤ 67108864 := y5
          -- its length, its zeros
          have eN : N = 7900 := by
            obtain ⟨qa, ea, ia, va, f1, t2, f3, f4, f5⟩ := hG.2.2.2.1 _ (ab_ff_in hf2)
            have f1' : sv[r1]? = some qa := f1
            rw [p1] at f1'
            cases f1'
            rw [y3] at t2
            cases t2
            have f4' : (if N < 2147483648 then some (Value.int (Int32.ofNat N)) else none) = some va := f4
            rw [if_pos (by omega)] at f4'
            obtain ⟨xx, hx1, hx2⟩ := f5
            rw [ab_ev0 c6] at hx2
            rw [hx1] at f4'
            have e5 : Int32.ofNat N = xx := by
              have h0 := Option.some.inj f4'
              injection h0
            have e6 : (nI N).toInt = (N : Int) := nI_toInt (by omega)
            have e7 : xx.toInt = (N : Int) := by rw [← e5]; exact e6
            have e8 := Option.some.inj hx2
            omega
          subst eN
          have hz0 : ∀ j, j < 7900 → f9 j = 0 := by
            obtain ⟨a7, m7⟩ := ab_fsr_in hf
            obtain ⟨qa, ea, ia, va, f1, t2, f3, f4, f5⟩ := hG.2.2.2.1 _ m7
            have f1' : sv[r1]? = some qa := f1
            rw [p1] at f1'
            cases f1'
            rw [y3] at t2
            cases t2
            have f3' : ab_ev rv f = some ia := f3
            rw [ab_ev0 c4] at f3'
            have ei := Option.some.inj f3'
            obtain ⟨⟨cA, n9, g9, d8, d7⟩, -⟩ := ab_rd_q2 (t := 4) f4
            cases d8
            intro j hj
            exact (d7 j (by omega)).2
          obtain ⟨n0, hn0, hn1⟩ : ∃ n0 : Int, rv[0]? = some n0 ∧ 0 ≤ n0 := by
            obtain ⟨x0, x1, x2, x3⟩ := ab_ev_bd hG.1 hp0
            obtain ⟨w, w1, w2⟩ := ab_ev1 (show ¬ ((0, 1, 0) : ab_L).2.1 = 0 by decide) x1
            refine ⟨w, w1, ?_⟩
            dsimp only at w2
            omega
          obtain ⟨x0, b0, o0⟩ := ab_lo_get hl (i := 0) (a := .inr (.inl (z + 1))) rfl (fun h9 => by cases h9)
          obtain ⟨wq, hwq, rfl⟩ := ab_nnul hz o0
          rw [i1] at hwq
          cases hwq
          have hlt : wp.1 < ws.length := (List.getElem?_eq_some_iff.mp y3).1
          have hne : w0.1 ≠ wp.1 := fun z9 => by
            rw [z9] at i3
            have h9 := (Prod.mk.inj (Option.some.inj (i3.symm.trans y3))).2
            cases h9
          have hw0 : ∀ ff : Nat → Int32, (ws.set wp.1 (wp.2, (.inl (dA 0, 7900, .inl ff) : va_E)))[w0.1]? = some (w0.2, .inr (11, vs9)) := fun ff => by rw [List.getElem?_set_ne (fun z9 => hne z9.symm)]; exact i3
          have hw1 : ∀ ff : Nat → Int32, (ws.set wp.1 (wp.2, (.inl (dA 0, 7900, .inl ff) : va_E)))[wp.1]? = some (wp.2, .inl (dA 0, 7900, .inl ff)) := fun ff => List.getElem?_set_self hlt
          have hph := ab_ph_le (ke := sv0.2.2.2.1) hG.2.2.2.2.1 hD
          have hb0 := hs0.2.2
          have hcp : ce + (ab_ph sv0.2.2.2.1 ks ws / 1024 - sv0.2.2.2.2.2 / 1024) + 0 ≤ R.cells ∧ sl + (ab_ph sv0.2.2.2.1 ks ws - sv0.2.2.2.2.2) + 0 ≤ R.slots := ⟨by have := hcap.1; omega, by have := hcap.2; omega⟩
          have hsz : ls.size = ee_ml 2 := by
            obtain ⟨-, lv, hlv, -⟩ := hl
            exact hlv.1.trans (by decide +kernel : (1 : Nat) = ee_ml 2)
          refine ee_ini_row (pc := 59) hC i3 p2 hP b0 (by decide +kernel) (by decide +kernel) ?_
          refine lv_bipush (v := nI 10) hx hb (show decode (ee_cb 2) 63 = .ok (.bipush 10, 2) by decide +kernel) (by decide +kernel) ?_
          refine lv_iconst (v := -1) hx hb (show decode (ee_cb 2) 65 = .ok (.iconst (-1), 1) by decide +kernel) (by decide +kernel) ?_
          refine va_iast hx hb hGG.1 hP hD hS wp.1 0 y3 rfl (vp_in_nI (by omega) (by omega)) (show decode (ee_cb 2) 66 = .ok (.iastore, 1) by decide +kernel) (fun H1 locs1 hP1 hD1 hS1 => ?_)
          rw [nI_clamp (by omega)] at hP1 hD1
          refine lv_aload_n hx hb (show decode (ee_cb 2) 67 = .ok (.aload_n 0, 1) by decide +kernel) rfl b0 ?_
          refine lv_iconst (v := 1) hx hb (show decode (ee_cb 2) 68 = .ok (.iconst 1, 1) by decide +kernel) (by decide +kernel) ?_
          refine lv_iconst (v := 1) hx hb (show decode (ee_cb 2) 69 = .ok (.iconst 1, 1) by decide +kernel) (by decide +kernel) ?_
          refine lv_iconst (v := 1) hx hb (show decode (ee_cb 2) 70 = .ok (.iconst 1, 1) by decide +kernel) (by decide +kernel) ?_
          refine lv_iconst (v := 1) hx hb (show decode (ee_cb 2) 71 = .ok (.iconst 1, 1) by decide +kernel) (by decide +kernel) ?_
          refine sm_40 (pc := 72) (a := 35) (b := 68) (n := 3) (vAs := [.int 1, .int 1, .int 1, .int 1]) (vr := []) hR (by omega) hC (by decide +kernel) (by decide) (ee_sta_ct (d := d - 1) (by omega) (hw0 (upd f9 10 (-1))) p2 (hw1 (upd f9 10 (-1)))) hP1 hD1 hS1 hsz (kk0 := w0.1) (ax := w0.2) (fs := vs9) (by rw [show ee_yc 68 = 11 by decide +kernel]; exact hw0 _) ⟨rfl, rfl⟩ (show (4 : Nat) = ee_np 68 by decide +kernel) (by decide) hcp ?_
          rintro v ws1 H2 locs2 k9 n9 ⟨rfl, rfl, rfl, gi, hgi, rfl⟩ hP2 hD2 hS2
          rw [List.set_set] at hP2 hD2
          have b1 : 1 ≤ (1 : Int32).toInt ∧ (1 : Int32).toInt ≤ 3 := by decide +kernel
          have b2 : 1 ≤ (1 : Int32).toInt ∧ (1 : Int32).toInt ≤ 4 := by decide +kernel
          have b3 : 1 ≤ (1 : Int32).toInt ∧ (1 : Int32).toInt ≤ 8 := by decide +kernel
          have hiv := fun j (hj : j < 1270) (hk : ee_stk j = false) => ee_sta_iv hgi b1 b2 b3 b1 hj hk
          have hrest : ∀ j, j < 7900 → (ee_stk j = true ∨ 1270 ≤ j) → gi j = if j = 10 then -1 else 0 := fun j hj hk => by
            rw [ee_sta_out hgi hk]
            by_cases h10 : j = 10
            · rw [h10, pk_us]
              rfl
            · rw [pk_un h10, if_neg h10]
              exact hz0 j hj
          have hgn : ab_gd gi := ee_sta_gd hiv (fun j hj hk => by
            rw [hrest j (by omega) hk]
            have h9 := List.all_eq_true.mp ee_ctT j (List.mem_range.mpr hj)
            have h8 : (ee_stk j || Nat.ble (nat_lit 1270) j) = true := by
              rcases hk with hk | hk
              · rw [hk, Bool.true_or]
              · rw [show Nat.ble (nat_lit 1270) j = true from Nat.ble_eq_true_of_le hk, Bool.or_true]
            rw [h8, Bool.not_true, Bool.false_or] at h9
            cases hq9 : ab_ke 37 j with
            | inr z9 => rw [hq9] at h9; cases h9
            | inl q9 =>
              rw [hq9] at h9
              have h9' : (bif Nat.beq j (nat_lit 10) then decide (q9.1 ≤ -1) && decide (-1 ≤ q9.2) else decide (q9.1 ≤ 0) && decide (0 ≤ q9.2)) = true := h9
              by_cases h10 : j = 10
              · rw [ee_ct (by rw [h10]; rfl), Bool.and_eq_true, decide_eq_true_eq, decide_eq_true_eq] at h9'
                rw [if_pos h10]
                exact ⟨_, rfl, by rw [show (-1 : Int32).toInt = -1 by decide +kernel]; exact h9'.1, by rw [show (-1 : Int32).toInt = -1 by decide +kernel]; exact h9'.2⟩
              · rw [ee_cf (ee_nbf h10), Bool.and_eq_true, decide_eq_true_eq, decide_eq_true_eq] at h9'
                rw [if_neg h10]
                exact ⟨_, rfl, by rw [show (0 : Int32).toInt = 0 by decide +kernel]; exact h9'.1, by rw [show (0 : Int32).toInt = 0 by decide +kernel]; exact h9'.2⟩)
          have hcell : ab_cell dA ks (ws.map (·.1)) 57 (.inl (dA 0, 7900, .inl gi)) := by
            refine ⟨fun ci ts h9 => (by rw [ab_ko57] at h9; cases h9), fun t9 lo9 hi9 h9 => ?_, ab_c3_no (by decide) (by decide)⟩
            rw [ab_ka57] at h9
            cases h9
            refine Or.inl ⟨Or.inl rfl, 7900, gi, rfl, by decide, by decide, fun i hi => ?_⟩
            rw [ab_ke57]
            exact Or.inr (Or.inr ⟨gi i, rfl⟩)
          have hG1 : ab_G ab_cls dA xa ks (ws.set wp.1 (wp.2, .inl (dA 0, 7900, .inl gi))) rv sv (hh.1, hh.2.1, hh.2.2.1, (r1, (6, 0, 0, 0), .inl (0, 0, 0)) :: (r1, (8, 0, 0, 0), .inl (0, 0, 0)) :: (r1, (1, 0, 0, 8), .inl (0, 0, 0)) :: hh.2.2.2.1.filter (ab_ctk hh.2.2.1), hh.2.2.2.2) := by
            refine ⟨hG.1, hG.2.1, ab_Kn_set hG.2.2.1 y3, fun g9 h9 => ?_, ab_TW_arr hG.2.2.2.2.1 y3 y2 hcell, ab_CL_w hG.2.2.2.2.2 ab_hcok hG.2.2.2.2.1 hD y3 y2 (by decide) (fun cc hc => absurd (show cc ∈ ([] : List ab_Cl) from hc) List.not_mem_nil)⟩
            rcases List.mem_cons.mp h9 with rfl | h9
            · refine ⟨wp, _, n0 + 0, .int 0, p1, hw1 gi, ?_, ?_, ⟨0, rfl, ab_ev0 rfl⟩⟩
              · show (match rv[0]?, ab_ev rv (0, 0, 0) with
                  | some n, some x => some (n + x)
                  | _, _ => none) = some (n0 + 0)
                rw [hn0, ab_ev0 rfl]
              · refine ab_rd_q (t := 3) ⟨dA 0, 7900, gi, rfl, rfl, fun b hb5 cc hcc => ?_⟩
                have hc15 := ab_cn_lt cc hcc
                by_cases hb9 : b = 0
                · subst hb9
                  rw [show 1580 * 0 + cc = cc by omega, ee_sta_cn hiv cc hcc]
                  exact ⟨Int.le_refl _, by omega⟩
                · rw [hrest (1580 * b + cc) (by omega) (Or.inr (by omega)), if_neg (by omega), show (0 : Int32).toInt = 0 by decide +kernel]
                  exact ⟨Int.le_refl _, by omega⟩
            · rcases List.mem_cons.mp h9 with rfl | h9
              · refine ⟨wp, _, 0, .int 0, p1, hw1 gi, ab_ev0 rfl, ab_rd_q (t := 5) ⟨dA 0, 7900, gi, rfl, rfl, ?_⟩, ⟨0, rfl, ab_ev0 rfl⟩⟩
                refine ab_gd_blk (f := gi) (fun j hj => ?_) hgn
                show gi (1580 * 0 + j) = gi j
                rw [show 1580 * 0 + j = j by omega]
              · rcases List.mem_cons.mp h9 with rfl | h9
                · refine ⟨wp, _, 8, .int 0, p1, hw1 gi, ab_ev0 rfl, ?_, ⟨0, rfl, ab_ev0 rfl⟩⟩
                  show (if (0 : Int) ≤ 8 ∧ (8 : Int) < ((7900 : Nat) : Int) then some (Value.int (gi (8 : Int).toNat)) else none) = some (Value.int 0)
                  rw [if_pos ⟨by decide, by decide⟩, show (8 : Int).toNat = 8 from rfl, hrest 8 (by omega) (Or.inl rfl), if_neg (by omega)]
                obtain ⟨h8, h7⟩ := List.mem_filter.mp h9
                refine ab_fact_upd y3 (hG.2.2.2.1 g9 h8) (fun ii v hsv hki hrd => ?_)
                exfalso
                unfold ab_ctk at h7
                split at h7
                · rename_i κ9 hκ9
                  rw [ee_nth_eq] at hκ9
                  obtain ⟨q5, e5, b11, b12, b13⟩ := hG.2.2.1.2 _ κ9 hκ9
                  rw [hsv] at b11
                  cases b11
                  rw [y2] at b12
                  cases b12
                  cases h7
                · cases h7
          have hpx : ab_px sv0 ks (ws.set wp.1 (wp.2, .inl (dA 0, 7900, .inl gi))) sv := ab_px_set hs0 y3 y2 hm57 (ab_sm_in (fun h9 => absurd h9 (by decide))) (ab_ph_st y3)
          have k9 := k ks _ rv sv H2 locs2 ls [] hr0 hpx hG1 hP2 hD2 hS2 hl trivial
          dsimp only at k9
          rw [ab_ph_st y3] at k9
          exact k9
      · cases h
    · cases h
  · cases h
def ab_o36z (cC cS κ n : Nat) : ab_S → Option (List ab_S)
  | (pc, lo, .inl f :: st, h, ce, sl) => (match ab_bd h.1 f with
    | some p => bif ab_mkc cC cS κ (nat_lit 2) 67108864 h p ce sl (.inl (nat_lit 0, 0, 0)) then ab_mko κ n true f p.2.toNat (pc, lo, st, h, ce, sl) else none
    | none => none)
  | _ => none
theorem as_36z {pc b n cC cS κ y : Nat} (hcap : cC + (6144 - sv0.2.2.2.2.2 / 1024) ≤ R.cells ∧ cS + (6291456 - sv0.2.2.2.2.2) ≤ R.slots) (hnc : ∀ κ, ab_nc κ = true → ab_cls κ = []) (hcok : ab_cok2 ab_cls) (hC : ee_C p s m args meth c D dA xa xt B y) (hs : ee_sc y pc (36, 2, b, n) = true) (h : ab_o36z cC cS κ n (pc, r) = some L) (k : ∀ S ∈ L, ab_WS ab_cls p l e R s m args below meth c Q D dA xa B rv0 sv0 y S) : ab_WS ab_cls p l e R s m args below meth c Q D dA xa B rv0 sv0 y (pc, r) := by
  unfold ab_o36z at h
  split at h
  · rename_i pc' lo f st hh ce sl heq
    cases heq
    split at h
    · rename_i pp hpp
      cases hc : ab_mkc cC cS κ (nat_lit 2) 67108864 hh pp ce sl (.inl (nat_lit 0, 0, 0)) with
      | false => rw [ee_cf hc] at h; cases h
      | true =>
        rw [ee_ct hc] at h
        obtain ⟨q, hka, hko, c2, c3, c4, c5, c6, c7, c8, c9, c10⟩ := ab_mkc_spec hc
        obtain ⟨t0, mn, mx⟩ := q
        have c6' : t0 = 2 := c6
        subst c6'
        intro ks ws rv sv H locs ls vs hr0 hs0 hG hP hD hS hl hv
        match vs, hv with
        | v1 :: vs, ⟨⟨iv, e1, hi⟩, hv⟩ =>
          subst e1
          have hbb := ab_bd_in hG.1 hpp hi
          have hphb : ab_ph sv0.2.2.2.1 ks ws ≤ ab_phb hh := ab_phb_snd (sv0 := sv0) hG hD hs0.2.1.2.2
          obtain ⟨N, hN, eN, tN⟩ := ab_nat_of iv (by omega)
          have hneg : ¬ iv < 0 := by
            rw [Int32.lt_iff_toInt_lt]
            have e9 : (0 : Int32).toInt = 0 := rfl
            omega
          have hcl : iv.toNatClampNeg = N := by
            show iv.toInt.toNat = N
            omega
          have hph := ab_ph_le (ke := sv0.2.2.2.1) hG.2.2.2.2.1 hD
          have hb0 := hs0.2.2
          have hcap2 : ce + (ab_ph sv0.2.2.2.1 ks ws / 1024 - sv0.2.2.2.2.2 / 1024) + 1 ≤ R.cells ∧ sl + (ab_ph sv0.2.2.2.1 ks ws - sv0.2.2.2.2.2) + N ≤ R.slots := ⟨by have := hcap.1; omega, by have := hcap.2; omega⟩
          refine sm_36z hC hs hP hD hS hneg hcl (by omega) hcap2 (fun qa H1 hP1 hD1 hS1 => ?_)
          refine ab_mko_on hnc hcok c7 (by omega) hN h k (by rw [← tN]; exact hi) hr0 hs0 hD hG (fun _ => rfl) ?_ hP1 hD1 hS1 hl hv
          refine ⟨fun ci9 ts9 h9 => (by rw [hko] at h9; cases h9), fun t9 lo9 hi9 h9 => ?_, ab_c3_no (by rintro rfl; cases (show ab_nc 17 = true from c7)) (by rintro rfl; cases (show ab_nc 37 = true from c7))⟩
          rw [hka] at h9
          cases h9
          refine Or.inl ⟨Or.inr rfl, N, _, rfl, by dsimp only at c4 hbb; omega, by dsimp only at c5 hbb; omega, fun i hi => ?_⟩
          rcases c8 with c8 | c8
          · cases c8
          · rw [ab_ke_u (ab_nc37 c7)]
            exact ab_fits_snd hG (va := .inl (0, 0, 0)) ⟨0, rfl, rfl⟩ c8
    · cases h
  · cases h
end CTO
/-- a new row of three references: all are null -/
def ab_n3 (i : Nat) (S : ab_S) : ab_S := (S.1, S.2.1, S.2.2.1, (S.2.2.2.1.1, S.2.2.2.1.2.1, S.2.2.2.1.2.2.1, (i, (nat_lit 1, nat_lit 0, 0, 0), .inr (.inl (nat_lit 0))) :: (i, (nat_lit 1, nat_lit 0, 0, 1), .inr (.inl (nat_lit 0))) :: (i, (nat_lit 1, nat_lit 0, 0, 2), .inr (.inl (nat_lit 0))) :: S.2.2.2.1.2.2.2.1, S.2.2.2.1.2.2.2.2), S.2.2.2.2)
def ab_o37n (cC cS κ n : Nat) : ab_S → Option (List ab_S)
  | (pc, lo, .inl f :: st, h, ce, sl) => bif decide (f.2.1 = 0) && decide (f.2.2 = 3) then (match ab_o37 cC cS κ (nat_lit 6) n (pc, lo, .inl f :: st, h, ce, sl) with
    | some LL => some (LL.map (ab_n3 (ee_len h.2.2.1)))
    | none => none) else none
  | _ => none
section CTN
variable {p : Program} {l : Launch} {e : Env} {R : Room} {s : State} {m : MethodId} {args : Array Value} {below : List Frame} {meth : Method} {c : Code} {Q : State → Prop} {D : va_G} {dA : Nat → ClassId} {xa : List Nat} {xt : ee_X} {B : Nat} {rv0 : List Int} {sv0 : ab_B} {y : Nat}
variable {pc a b n cC cS : Nat} {r : List ab_A × List ab_A × ab_H × Nat × Nat} {L : List ab_S}
theorem ab_mko_on3 {κ hi N : Nat} {f : ab_L} {lo st : List ab_A} {hh : ab_H} {ce sl : Nat} (hn : ab_nc κ = true) (hN : N ≤ hi) (hN3 : N = 3) {LL : List ab_S} (h : ab_mko κ n false f hi (pc, lo, st, hh, ce, sl) = some LL) (k : ∀ S ∈ LL, ab_WS ab_cls p l e R s m args below meth c Q D dA xa B rv0 sv0 y (ab_n3 (ee_len hh.2.2.1) S))
    {ks : List Nat} {ws : va_W} {rv : List Int} {sv : List (Nat × Nat)} {H1 : Heap} {locs : List Loc} {ls : Array Slot} {vs : List Value} {qa : Nat} {cA : ClassId} (hf : ab_ev rv f = some (N : Int)) (hr0 : rv0 <+: rv) (hs0 : ab_px sv0 ks ws sv) (hD : va_D (fun q => B ≤ q) ws) (hG : ab_G ab_cls dA xa ks ws rv sv hh) (hcell : ab_cell dA ks (ws.map (·.1)) κ (.inl (cA, N, .inr (.inr (.inr (.inr (fun _ => none)))))))
    (hP1 : va_P D ee_cl (ws ++ [(qa, .inl (cA, N, .inr (.inr (.inr (.inr (fun _ => none))))))]) H1) (hD1 : va_D (fun q => B ≤ q) (ws ++ [(qa, .inl (cA, N, .inr (.inr (.inr (.inr (fun _ => none))))))])) (hS1 : va_S (fun q => B ≤ q) s.heap H1 locs) (hl : ab_lo rv sv xa ls (ee_ml y) lo) (hv : ab_a2 (ab_ok rv sv xa) vs st) :
    W p l e R s m args below meth c H1 locs (ce + (ab_ph sv0.2.2.2.1 ks ws / 1024 - sv0.2.2.2.2.2 / 1024) + 1) (sl + (ab_ph sv0.2.2.2.1 ks ws - sv0.2.2.2.2.2) + N) Q (F0 m (pc + n) ls (.ref qa :: vs)) := by
  subst hN3
  unfold ab_mko at h
  simp only [ee_f_eq, ee_len_eq] at h
  cases h
  have k := k _ List.mem_cons_self
  rw [ee_len_eq] at k
  have hG2 := ab_G_mk (qa := qa) hG ab_hcok2 (ab_hnc κ hn) hcell
  have p2 : sv <+: sv ++ [(ws.length, qa)] := List.prefix_append sv _
  have hsl : sv.length = hh.2.2.1.length := hG.2.2.1.1
  have hnm : (sv ++ [(ws.length, qa)])[hh.2.2.1.length]? = some (ws.length, qa) := by rw [← hsl]; simp
  have hn29 : κ ≠ 29 := by
    rintro rfl
    cases (show ab_nc 29 = true from hn)
  have hfL : ab_fact rv (sv ++ [(ws.length, qa)]) xa (ws ++ [(qa, .inl (cA, 3, .inr (.inr (.inr (.inr (fun _ => none))))))]) (hh.2.2.1.length, (2, 0, 0, 0), .inl f) := by
    refine ⟨(ws.length, qa), .inl (cA, 3, .inr (.inr (.inr (.inr (fun _ => none))))), 0, .int (Int32.ofNat 3), hnm, by simp, rfl, ?_, ⟨_, rfl, ?_⟩⟩
    · show (if 3 < 2147483648 then some (Value.int (Int32.ofNat 3)) else none) = _
      rw [if_pos (by decide)]
    · have e7 : (Int32.ofNat 3).toInt = ((3 : Nat) : Int) := nI_toInt (n := 3) (by omega)
      rw [e7]
      exact hf
  have hfN : ∀ z : Int, 0 ≤ z → z < 3 → ab_fact rv (sv ++ [(ws.length, qa)]) xa (ws ++ [(qa, .inl (cA, 3, .inr (.inr (.inr (.inr (fun _ => none))))))]) (hh.2.2.1.length, (1, 0, 0, z), .inr (.inl 0)) := fun z z0 z3 => by
    refine ⟨(ws.length, qa), .inl (cA, 3, .inr (.inr (.inr (.inr (fun _ => none))))), z, .null, hnm, by simp, ab_ev0 rfl, ?_, rfl⟩
    show (if 0 ≤ z ∧ z < ((3 : Nat) : Int) then some (va_rf none) else none) = _
    rw [if_pos ⟨z0, z3⟩]
    rfl
  have hG3 := ab_G_adf (h := (hh.1, hh.2.1, ab_snoc hh.2.2.1 κ, hh.2.2.2.1, hh.2.2.2.2)) hG2 hfL
  have hG4 := ab_G_adf (ab_G_adf (ab_G_adf hG3 (hfN 2 (by decide) (by decide))) (hfN 1 (by decide) (by decide))) (hfN 0 (by decide) (by decide))
  have k9 := k (ks ++ [κ]) (ws ++ [(qa, .inl (cA, 3, .inr (.inr (.inr (.inr (fun _ => none))))))]) rv (sv ++ [(ws.length, qa)]) H1 locs ls (.ref qa :: vs) hr0 (ab_px_new hs0 p2 hn29 (ab_ph_new hG.2.2.2.2.1 hD hn29)) hG4 hP1 hD1 hS1 (ab_lo_mono (List.prefix_refl rv) p2 hl) ⟨?_, ab_a2_mono (fun _ _ => ab_ok_mono (List.prefix_refl rv) p2) hv⟩
  · dsimp only [ab_n3] at k9
    rw [ab_ph_new (ke := sv0.2.2.2.1) hG.2.2.2.2.1 hD hn29] at k9
    rw [Nat.add_right_comm ce, Nat.add_right_comm sl]
    exact W.widen (Nat.le_refl _) (Nat.add_le_add_right (Nat.add_le_add_left hN sl) _) k9
  · refine Or.inl ⟨(ws.length, qa), ?_, rfl⟩
    have e3 : Nat.mul 2 hh.2.2.1.length / 2 = hh.2.2.1.length := by
      show (2 * hh.2.2.1.length) / 2 = _
      omega
    show (sv ++ [(ws.length, qa)])[Nat.mul 2 hh.2.2.1.length / 2]? = _
    rw [e3]
    exact hnm
theorem as_37n {κ : Nat} (hcap : cC + (6144 - sv0.2.2.2.2.2 / 1024) ≤ R.cells ∧ cS + (6291456 - sv0.2.2.2.2.2) ≤ R.slots) (hC : ee_C p s m args meth c D dA xa xt B y) (hs : ee_sc y pc (37, a, 6, n) = true) (h : ab_o37n cC cS κ n (pc, r) = some L) (k : ∀ S ∈ L, ab_WS ab_cls p l e R s m args below meth c Q D dA xa B rv0 sv0 y S) : ab_WS ab_cls p l e R s m args below meth c Q D dA xa B rv0 sv0 y (pc, r) := by
  unfold ab_o37n at h
  split at h
  · rename_i pc' lo f st hh ce sl heq
    cases heq
    obtain ⟨h03, h⟩ := ab_bif h
    rw [Bool.and_eq_true, decide_eq_true_eq, decide_eq_true_eq] at h03
    obtain ⟨hf0, hf3⟩ := h03
    cases ho : ab_o37 cC cS κ (nat_lit 6) n (pc, lo, .inl f :: st, hh, ce, sl) with
    | none =>
      rw [ho] at h
      cases h
    | some LL =>
      rw [ho] at h
      have eL : L = LL.map (ab_n3 (ee_len hh.2.2.1)) := (Option.some.inj h).symm
      have k2 : ∀ S ∈ LL, ab_WS ab_cls p l e R s m args below meth c Q D dA xa B rv0 sv0 y (ab_n3 (ee_len hh.2.2.1) S) := fun S hS => k _ (by
        rw [eL]
        exact List.mem_map_of_mem hS)
      unfold ab_o37 at ho
      dsimp only at ho
      cases hpp : ab_bd hh.1 f with
      | none =>
        rw [hpp] at ho
        cases ho
      | some pp =>
        rw [hpp] at ho
        have ho' : (bif ab_mkc cC cS κ (nat_lit 6) 1000000 hh pp ce sl (.inr (.inl (nat_lit 0))) then ab_mko κ n false f pp.2.toNat (pc, lo, st, hh, ce, sl) else none) = some LL := ho
        obtain ⟨hc, ho'⟩ := ab_bif ho'
        obtain ⟨q, hka, hko, c2, c3, c4, c5, c6, c7, c8, c9, c10⟩ := ab_mkc_spec hc
        obtain ⟨t0, mn, mx⟩ := q
        have c6' : t0 = 6 := c6
        subst c6'
        intro ks ws rv sv H locs ls vs hr0 hs0 hG hP hD hS hl hv
        match vs, hv with
        | v1 :: vs, ⟨⟨iv, e1, hi⟩, hv⟩ =>
          subst e1
          have hbb := ab_bd_in hG.1 hpp hi
          have hphb : ab_ph sv0.2.2.2.1 ks ws ≤ ab_phb hh := ab_phb_snd (sv0 := sv0) hG hD hs0.2.1.2.2
          obtain ⟨N, hN, eN, tN⟩ := ab_nat_of iv (by omega)
          have hneg : ¬ iv < 0 := by
            rw [Int32.lt_iff_toInt_lt]
            have e9 : (0 : Int32).toInt = 0 := rfl
            omega
          have hcl : iv.toNatClampNeg = N := by
            show iv.toInt.toNat = N
            omega
          have hi3 : iv.toInt = 3 := by
            rw [ab_ev0 hf0, hf3] at hi
            exact (Option.some.inj hi).symm
          have hN3 : N = 3 := by omega
          have hph := ab_ph_le (ke := sv0.2.2.2.1) hG.2.2.2.2.1 hD
          have hb0 := hs0.2.2
          have hcap2 : ce + (ab_ph sv0.2.2.2.1 ks ws / 1024 - sv0.2.2.2.2.2 / 1024) + 1 ≤ R.cells ∧ sl + (ab_ph sv0.2.2.2.1 ks ws - sv0.2.2.2.2.2) + N ≤ R.slots := ⟨by have := hcap.1; omega, by have := hcap.2; omega⟩
          refine sm_37 hC hs hP hD hS hneg hcl (by omega) hcap2 (fun qa H1 hb3 hb6 hP1 hD1 hS1 => ?_)
          refine ab_mko_on3 c7 (by omega) hN3 ho' k2 (by rw [← tN]; exact hi) hr0 hs0 hD hG ?_ hP1 hD1 hS1 hl hv
          refine ⟨fun ci9 ts9 h9 => (by rw [hko] at h9; cases h9), fun t9 lo9 hi9 h9 => ?_, ab_c3_no (by rintro rfl; cases (show ab_nc 17 = true from c7)) (by rintro rfl; cases (show ab_nc 37 = true from c7))⟩
          rw [hka] at h9
          cases h9
          refine Or.inr (Or.inr ⟨hb3, hb6, N, _, rfl, by dsimp only at c4 hbb; omega, by dsimp only at c5 hbb; omega, fun i hi => ?_⟩)
          rcases c8 with c8 | c8
          · omega
          · rw [ab_ke_u (ab_nc37 c7)]
            exact ab_fits_snd hG (va := .inr (.inl 0)) rfl c8
  · cases h
end CTN
def ab_mcI : ab_Mc := fun cC cS hk y S => bif Nat.beq y (nat_lit 2) then (bif Nat.beq S.1 (nat_lit 59) then ab_oct cC cS S else bif Nat.beq S.1 (nat_lit 15) then ab_o36z cC cS (hk (nat_lit 15)) (nat_lit 2) S else none) else bif Nat.beq y (nat_lit 1) then (bif Nat.beq S.1 (nat_lit 65) then ab_o37n cC cS (hk (nat_lit 65)) (nat_lit 3) S else none) else none
theorem ab_mcI_snd {l : Launch} {D : va_G} {dA : Nat → ClassId} {xa : List Nat} {xt : ee_X} {B mask X : Nat} (hm : ab_wm mask 57 = true) : ab_MS ab_cls l D dA xa xt B mask X 3 ab_mcI := by
  intro p e R s m args below meth c Q rv0 sv0 y d cC cS hk hd hR hcap hmask hXX hC hyM S L h kk
  unfold ab_mcI at h
  obtain ⟨pc, r⟩ := S
  cases hy2 : Nat.beq y (nat_lit 2) with
  | false =>
    rw [ee_cf hy2] at h
    obtain ⟨hc, h⟩ := ab_bif h
    have e1 : y = 1 := Nat.eq_of_beq_eq_true hc
    subst e1
    have h' : (bif Nat.beq pc (nat_lit 65) then ab_o37n cC cS (hk (nat_lit 65)) (nat_lit 3) (pc, r) else none) = some L := h
    obtain ⟨hc2, h'⟩ := ab_bif h'
    have e2 : pc = 65 := Nat.eq_of_beq_eq_true hc2
    subst e2
    exact as_37n (a := 46) (n := 3) hcap hC (by decide +kernel) h' kk
  | true =>
    rw [ee_ct hy2] at h
    have e1 : y = 2 := Nat.eq_of_beq_eq_true hy2
    subst e1
    cases h59 : Nat.beq pc (nat_lit 59) with
    | true =>
      have e2 : pc = 59 := Nat.eq_of_beq_eq_true h59
      subst e2
      exact as_ct (by rw [hmask]; exact hm) hR hd hcap hC h kk
    | false =>
      have h' : (bif Nat.beq pc (nat_lit 59) then ab_oct cC cS (pc, r) else bif Nat.beq pc (nat_lit 15) then ab_o36z cC cS (hk (nat_lit 15)) (nat_lit 2) (pc, r) else none) = some L := h
      rw [ee_cf h59] at h'
      obtain ⟨hc2, h'⟩ := ab_bif h'
      have e2 : pc = 15 := Nat.eq_of_beq_eq_true hc2
      subst e2
      exact as_36z (b := 0) (n := 2) hcap ab_hnc ab_hcok2 hC (by decide +kernel) h' kk
