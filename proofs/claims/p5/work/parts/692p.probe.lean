/-! ===== the stride over the search for a place in the reference's comes() ===== -/
theorem ab_ka44 : ab_ka 44 = some (0, 131072, 131072) := by decide +kernel
theorem ab_ka43 : ab_ka 43 = some (1, 65536, 65536) := by decide +kernel
theorem ab_ke44 : ab_ke 44 0 = .inl (0, 65536) := by decide +kernel
theorem jx_one : ee_x 2147483649 = nI 1 := by decide +kernel
theorem jx_msk : ee_x 2147614719 = nI 131071 := by decide +kernel
def ab_opr : ab_S → Option (List ab_S)
  | (pc, [.inr (.inl 1), .inr (.inr 1), a2, a3, a4, .inl g], [], h, ce, sl) => (match ab_rfn (ab_ff h.2.2.2.1 (nat_lit 0) (nat_lit 0, nat_lit 20, 0, 0)), ab_rfn (ab_ff h.2.2.2.1 (nat_lit 0) (nat_lit 0, nat_lit 19, 0, 0)) with
    | some r1, some q1 => (match ee_nth h.2.2.1 (nat_lit 0), ee_nth h.2.2.1 r1, ee_nth h.2.2.1 q1 with
      | some k0, some k1, some k2 => (match ab_fsr r1 (nat_lit 5) h.2.2.2.1, ab_bd h.1 g with
        | some w, some a => (match ab_bd h.1 w with
          | some pb => bif (Nat.beq k0 (nat_lit 38) && (Nat.beq k1 (nat_lit 44) && Nat.beq k2 (nat_lit 43))) && ((decide (pb.2 ≤ 131071) && !(ab_isl a4)) && (decide (0 ≤ a.1) && decide (a.2 ≤ 131071))) then (ab_fr h 0 131071 fun h' u => some [(nat_lit 63, [.inr (.inl (nat_lit 1)), .inr (.inr (nat_lit 1)), a2, a3, a4, .inl u], [], h', ce, sl)]) else none
          | none => none)
        | _, _ => none)
      | _, _, _ => none)
    | _, _ => none)
  | _ => none
section OPR
variable {cls : Nat → List ab_Cl} {p : Program} {l : Launch} {e : Env} {R : Room} {s : State} {m : MethodId} {args : Array Value} {below : List Frame} {meth : Method} {c : Code} {Q : State → Prop} {D : va_G} {dA : Nat → ClassId} {xa : List Nat} {xt : ee_X} {B : Nat} {rv0 : List Int} {sv0 : ab_B}
variable {r : List ab_A × List ab_A × ab_H × Nat × Nat} {L : List ab_S}
theorem ab_fldr2 {ks : List Nat} {ws : va_W} {rv : List Int} {sv : List (Nat × Nat)} {h : ab_H} (hG : ab_G cls dA xa ks ws rv sv h) {i j r9 : Nat} (hf : ab_rfn (ab_ff h.2.2.2.1 i (0, j, 0, 0)) = some r9) {w : Nat × Nat} {ci : Nat} {vs9 : List Value} (w1 : sv[i]? = some w) (w3 : ws[w.1]? = some (w.2, .inr (ci, vs9))) : ∃ wr : Nat × Nat, sv[r9]? = some wr ∧ vs9[j]? = some (.ref wr.2) := by
  cases hff : ab_ff h.2.2.2.1 i (0, j, 0, 0) with
  | none => rw [hff] at hf; cases hf
  | some a =>
    rw [hff] at hf
    match a, hf, hff with
    | .inr (.inl (z + 1)), hf, hff =>
      have hf' : (bif Nat.beq (Nat.mod z (nat_lit 2)) (nat_lit 0) then some (Nat.div z (nat_lit 2)) else none) = some r9 := hf
      obtain ⟨hz, hr⟩ := ab_bif hf'
      cases hr
      obtain ⟨qa, ea, ia, va, f1, f2, f3, f4, f5⟩ := hG.2.2.2.1 _ (ab_ff_in hff)
      have f1' : sv[i]? = some qa := f1
      rw [w1] at f1'
      cases f1'
      rw [w3] at f2
      cases f2
      have f3' : some ((j : Nat) : Int) = some ia := f3
      cases f3'
      have f4' : vs9[((j : Nat) : Int).toNat]? = some va := f4
      rw [Int.toNat_natCast] at f4'
      obtain ⟨qb, b1, rfl⟩ := ab_nnul hz f5
      exact ⟨qb, b1, f4'⟩
    | .inr (.inl 0), hf, _ => cases hf
    | .inr (.inr _), hf, _ => cases hf
    | .inl _, hf, _ => cases hf
theorem ab_i_nI {x : Int32} (h0 : 0 ≤ x.toInt) : x = nI x.toInt.toNat := by
  apply Int32.toInt_inj.mp
  have h9 := Int32.toInt_lt x
  rw [nI_toInt (by omega)]
  omega
theorem as_pr (hC : ee_C p s m args meth c D dA xa xt B 177) (h : ab_opr (21, r) = some L) (k : ∀ S ∈ L, ab_WS cls p l e R s m args below meth c Q D dA xa B rv0 sv0 177 S) : ab_WS cls p l e R s m args below meth c Q D dA xa B rv0 sv0 177 (21, r) := by
  unfold ab_opr at h
  split at h
  · rename_i pc' a2 a3 a4 g hh ce sl heq
    cases heq
    split at h
    · rename_i r1 q1 hr1 hq1
      split at h
      · rename_i k0 k1 k2 hk0 hk1 hk2
        split at h
        · rename_i w a hw ha
          split at h
          · rename_i pb hpb
            obtain ⟨hc, hfr⟩ := ab_bif h
            simp only [Bool.and_eq_true, decide_eq_true_eq] at hc
            obtain ⟨⟨c1, c2, c3⟩, ⟨c4, c7⟩, c5, c6⟩ := hc
            have c7 : ab_isl a4 = false := by
              cases h9 : ab_isl a4 with
              | false => rfl
              | true => rw [h9] at c7; cases c7
            have e0 : k0 = 38 := Nat.eq_of_beq_eq_true c1
            have e1 : k1 = 44 := Nat.eq_of_beq_eq_true c2
            have e2 : k2 = 43 := Nat.eq_of_beq_eq_true c3
            subst e0; subst e1; subst e2
            rw [ee_nth_eq] at hk0 hk1 hk2
            intro ks ws rv sv H locs ls vs hr0 hs0 hG hP hD hS hl hv
            have hG : ab_G cls dA xa ks ws rv sv hh := hG
            have hl : ab_lo rv sv xa ls 6 [.inr (.inl 1), .inr (.inr 1), a2, a3, a4, .inl g] := hl
            match vs, hv with
            | [], _ =>
              obtain ⟨w0, e0, i1, i2, i3⟩ := hG.2.2.1.2 0 38 hk0
              obtain ⟨a9, e9, u1, u2⟩ := hG.2.2.2.2.1.2 _ 38 i2
              rw [i3] at u1
              cases u1
              obtain ⟨ts9, hts9⟩ : ∃ ts9, ab_ko 38 = some (11, ts9) := ⟨_, rfl⟩
              obtain ⟨vs9, rfl, -, -⟩ := u2.1 _ _ hts9
              obtain ⟨wp, p1, p2⟩ := ab_fldr2 hG hr1 i1 i3
              obtain ⟨wt, t1, t2⟩ := ab_fldr2 hG hq1 i1 i3
              obtain ⟨wp', N, f, y1, y2, y3, y4, y5, y6, -⟩ := ab_int_cell hG hk1 ab_ka44 rfl
              rw [p1] at y1
              cases y1
              have eN : N = 131072 := by
                have h8 : (131072 : Int) ≤ N := y4
                have h9 : (N : Int) ≤ 131072 := y5
                omega
              subst eN
              obtain ⟨wt', et, z1, z2, z3⟩ := hG.2.2.1.2 _ 43 hk2
              rw [t1] at z1
              cases z1
              obtain ⟨a8, e8, v1, v2⟩ := hG.2.2.2.2.1.2 _ 43 z2
              rw [z3] at v1
              cases v1
              obtain ⟨g9, rfl⟩ : ∃ g9 : Nat → Int64, et = .inl (dA 1, 65536, .inr (.inl g9)) := by
                rcases v2.2.1 _ _ _ ab_ka43 with ⟨h9, -⟩ | ⟨-, n9, g9, rfl, h5, h6⟩ | ⟨h9, -⟩
                · rcases h9 with h9 | h9 <;> cases h9
                · have e9 : n9 = 65536 := by omega
                  subst e9
                  exact ⟨g9, rfl⟩
                · omega
              -- a place that is free
              obtain ⟨z, hz, hfz⟩ : ∃ z, z < 131072 ∧ f z = 0 := by
                obtain ⟨a7, m7⟩ := ab_fsr_in hw
                obtain ⟨qa, ea, ia, va, f1, f2, f3, f4, f5⟩ := hG.2.2.2.1 _ m7
                have f1' : sv[r1]? = some qa := f1
                rw [p1] at f1'
                cases f1'
                rw [y3] at f2
                cases f2
                have f3' : ab_ev rv w = some ia := f3
                have b9 := ab_bd_in hG.1 hpb f3'
                obtain ⟨⟨cA, n9, f9, h8, h7⟩, -⟩ := ab_rd_q2 (t := 2) f4
                cases h8
                have h7' : (((List.range 131072).filter (fun j => f j != 0)).length : Int) ≤ ia := h7
                apply Classical.byContradiction
                intro hn
                have hall : ∀ j ∈ List.range 131072, (f j != 0) = true := by
                  intro j hj
                  rw [bne_iff_ne]
                  intro h0
                  exact hn ⟨j, List.mem_range.mp hj, h0⟩
                rw [List.filter_eq_self.mpr hall, List.length_range] at h7'
                omega
              -- where the search is
              obtain ⟨x5, l5, o5⟩ := ab_lo_get hl (i := 5) (a := .inl g) rfl (fun h9 => by cases h9)
              obtain ⟨xi, rfl, hxi⟩ := o5
              have bx := ab_bd_in hG.1 ha hxi
              -- the end of the search
              have fin : ∀ (at9 : Nat) (ls9 : Array Slot), at9 < 131072 → ab_lo rv sv xa ls9 6 [.inr (.inl 1), .inr (.inr 1), a2, a3, a4, .inl (0, 0, (at9 : Int))] → W p l e R s m args below meth c H locs (ce + (ab_ph sv0.2.2.2.1 ks ws / 1024 - sv0.2.2.2.2.2 / 1024)) (sl + (ab_ph sv0.2.2.2.1 ks ws - sv0.2.2.2.2.2)) Q (F0 m 63 ls9 []) := by
                intro at9 ls9 hat hl9
                obtain ⟨h', u9, rv', q9, hG2, hu, hk9⟩ := ab_gets_fr hG hfr (x := (at9 : Int)) (by omega) (by omega)
                cases hk9
                refine k _ List.mem_cons_self ks ws rv' sv H locs ls9 [] (hr0.trans q9) hs0 hG2 hP hD hS ?_ trivial
                obtain ⟨h1, lv, h2, h3⟩ := hl9
                refine ⟨h1, lv, h2, fun i a ha9 => ?_⟩
                match i, ha9 with
                | 5, ha9 =>
                  rcases h3 5 _ rfl with h4 | ⟨v, h4, h5⟩
                  · cases h4
                  · obtain ⟨xx, rfl, hxx⟩ := h5
                    have e9 : (at9 : Int) = xx.toInt := by
                      have h6 : ab_ev rv (0, 0, (at9 : Int)) = some (at9 : Int) := ab_ev0 rfl
                      rw [h6] at hxx
                      exact Option.some.inj hxx
                    have ha9' : (.inl u9 : ab_A) = a := by simpa using ha9
                    subst ha9'
                    exact Or.inr ⟨_, h4, xx, rfl, by rw [hu, e9]⟩
                | 0, ha9 => exact (h3 0 a ha9).imp id (fun ⟨v, h4, h5⟩ => ⟨v, h4, ab_ok_mono q9 (List.prefix_refl sv) h5⟩)
                | 1, ha9 => exact (h3 1 a ha9).imp id (fun ⟨v, h4, h5⟩ => ⟨v, h4, ab_ok_mono q9 (List.prefix_refl sv) h5⟩)
                | 2, ha9 => exact (h3 2 a ha9).imp id (fun ⟨v, h4, h5⟩ => ⟨v, h4, ab_ok_mono q9 (List.prefix_refl sv) h5⟩)
                | 3, ha9 => exact (h3 3 a ha9).imp id (fun ⟨v, h4, h5⟩ => ⟨v, h4, ab_ok_mono q9 (List.prefix_refl sv) h5⟩)
                | 4, ha9 => exact (h3 4 a ha9).imp id (fun ⟨v, h4, h5⟩ => ⟨v, h4, ab_ok_mono q9 (List.prefix_refl sv) h5⟩)
                | i + 6, ha9 => simp at ha9
              have loop : ∀ (n9 at9 : Nat), at9 < 131072 → (z + 131072 - at9) % 131072 = n9 → ∀ ls9 : Array Slot, ab_lo rv sv xa ls9 6 [.inr (.inl 1), .inr (.inr 1), a2, a3, a4, .inl (0, 0, (at9 : Int))] → W p l e R s m args below meth c H locs (ce + (ab_ph sv0.2.2.2.1 ks ws / 1024 - sv0.2.2.2.2.2 / 1024)) (sl + (ab_ph sv0.2.2.2.1 ks ws - sv0.2.2.2.2.2)) Q (F0 m 21 ls9 []) := by
                intro n9
                induction n9 with
                | zero =>
                  intro at9 hat hn ls9 hl9
                  have hfa : f at9 = 0 := by
                    have e9 : at9 = z := by omega
                    rw [e9]
                    exact hfz
                  obtain ⟨x0, l0, o0⟩ := ab_lo_get hl9 (i := 0) (a := .inr (.inl 1)) rfl (fun h9 => by cases h9)
                  obtain ⟨qq, b1, rfl⟩ := ab_nnul (z := 0) rfl o0
                  have b1' : sv[0]? = some qq := b1
                  rw [i1] at b1'
                  cases b1'
                  obtain ⟨x5, l5, o5⟩ := ab_lo_get hl9 (i := 5) (a := .inl (0, 0, (at9 : Int))) rfl (fun h9 => by cases h9)
                  obtain ⟨xx, rfl, hxx⟩ := o5
                  have exx : xx = nI at9 := by
                    have h6 : ab_ev rv (0, 0, (at9 : Int)) = some (at9 : Int) := ab_ev0 rfl
                    rw [h6] at hxx
                    apply Int32.toInt_inj.mp
                    rw [nI_toInt (by omega)]
                    exact (Option.some.inj hxx).symm
                  subst exx
                  refine sm_2 hC (show ee_sc 177 21 (2, 0, 1, 1) = true by decide +kernel) (Or.inr ⟨_, rfl⟩) l0 ?_
                  refine sm_25 hC (show ee_sc 177 22 (25, 32, 724, 3) = true by decide +kernel) hP i3 p2 ?_
                  refine sm_1 hC (show ee_sc 177 25 (1, 5, 0, 2) = true by decide +kernel) l5 ?_
                  refine sm_28 hC (show ee_sc 177 27 (28, 0, 0, 1) = true by decide +kernel) hP y3 (nI_in hat (by decide)) ?_
                  rw [nI_clamp (by omega), hfa]
                  refine sm_45 hC (show ee_sc 177 28 (45, 5, 63, 3) = true by decide +kernel) (fun _ => fin at9 ls9 hat hl9) (fun h9 => absurd (show ¬ (0 : Int32) < 0 by decide) h9)
                | succ n9 ih =>
                  intro at9 hat hn ls9 hl9
                  obtain ⟨x0, l0, o0⟩ := ab_lo_get hl9 (i := 0) (a := .inr (.inl 1)) rfl (fun h9 => by cases h9)
                  obtain ⟨qq, b1, rfl⟩ := ab_nnul (z := 0) rfl o0
                  have b1' : sv[0]? = some qq := b1
                  rw [i1] at b1'
                  cases b1'
                  obtain ⟨x1, l1, o1⟩ := ab_lo_get hl9 (i := 1) (a := .inr (.inr 1)) rfl (fun h9 => by cases h9)
                  obtain ⟨xl, rfl⟩ := o1
                  obtain ⟨x5, l5, o5⟩ := ab_lo_get hl9 (i := 5) (a := .inl (0, 0, (at9 : Int))) rfl (fun h9 => by cases h9)
                  obtain ⟨xx, rfl, hxx⟩ := o5
                  have exx : xx = nI at9 := by
                    have h6 : ab_ev rv (0, 0, (at9 : Int)) = some (at9 : Int) := ab_ev0 rfl
                    rw [h6] at hxx
                    apply Int32.toInt_inj.mp
                    rw [nI_toInt (by omega)]
                    exact (Option.some.inj hxx).symm
                  subst exx
                  refine sm_2 hC (show ee_sc 177 21 (2, 0, 1, 1) = true by decide +kernel) (Or.inr ⟨_, rfl⟩) l0 ?_
                  refine sm_25 hC (show ee_sc 177 22 (25, 32, 724, 3) = true by decide +kernel) hP i3 p2 ?_
                  refine sm_1 hC (show ee_sc 177 25 (1, 5, 0, 2) = true by decide +kernel) l5 ?_
                  refine sm_28 hC (show ee_sc 177 27 (28, 0, 0, 1) = true by decide +kernel) hP y3 (nI_in hat (by decide)) ?_
                  rw [nI_clamp (by omega)]
                  refine sm_45 hC (show ee_sc 177 28 (45, 5, 63, 3) = true by decide +kernel) (fun _ => fin at9 ls9 hat hl9) (fun h9 => ?_)
                  have hpos : (0 : Int32) < f at9 := Classical.not_not.mp h9
                  have hposI : 0 < (f at9).toInt := by
                    have h8 := Int32.lt_iff_toInt_lt.mp hpos
                    exact h8
                  obtain ⟨xt9, e8, b3, b4⟩ : ∃ x : Int32, Value.int (f at9) = .int x ∧ (0 : Int) ≤ x.toInt ∧ x.toInt ≤ 65536 := by
                    have h8 := y6 at9 hat
                    rw [ab_ke_u (κ := 44) rfl, ab_ke44] at h8
                    exact h8
                  cases e8
                  obtain ⟨v9, hv9, ev9⟩ : ∃ v9 : Nat, v9 < 65536 ∧ f at9 = nI (v9 + 1) := by
                    refine ⟨(f at9).toInt.toNat - 1, by omega, ?_⟩
                    have h8 := ab_i_nI (x := f at9) (by omega)
                    have h7 : (f at9).toInt.toNat - 1 + 1 = (f at9).toInt.toNat := by omega
                    rw [h7]
                    exact h8
                  refine sm_2 hC (show ee_sc 177 31 (2, 0, 1, 1) = true by decide +kernel) (Or.inr ⟨_, rfl⟩) l0 ?_
                  refine sm_25 hC (show ee_sc 177 32 (25, 27, 723, 3) = true by decide +kernel) hP i3 t2 ?_
                  refine sm_2 hC (show ee_sc 177 35 (2, 0, 1, 1) = true by decide +kernel) (Or.inr ⟨_, rfl⟩) l0 ?_
                  refine sm_25 hC (show ee_sc 177 36 (25, 32, 724, 3) = true by decide +kernel) hP i3 p2 ?_
                  refine sm_1 hC (show ee_sc 177 39 (1, 5, 0, 2) = true by decide +kernel) l5 ?_
                  refine sm_28 hC (show ee_sc 177 41 (28, 0, 0, 1) = true by decide +kernel) hP y3 (nI_in hat (by decide)) ?_
                  rw [nI_clamp (by omega)]
                  refine sm_5 hC (show ee_sc 177 42 (5, 2147483649, 0, 1) = true by decide +kernel) (fun _ => ?_)
                  refine sm_10 (op := 11) (by decide) (by decide) hC (show ee_sc 177 43 (11, 0, 0, 1) = true by decide +kernel) (fun h9 => absurd h9 (by decide)) ?_
                  have es : ee_fo 11 (f at9) (ee_x 2147483649) = nI v9 := by
                    rw [jx_one, ev9]
                    show nI (v9 + 1) - nI 1 = nI v9
                    rw [pk_sub (by omega), Nat.add_sub_cancel]
                  rw [es]
                  refine sm_72 hC (show ee_sc 177 44 (72, 0, 0, 1) = true by decide +kernel) hP z3 (nI_in hv9 (by decide)) ?_
                  refine sm_56 hC (show ee_sc 177 45 (56, 1, 1, 1) = true by decide +kernel) l1 ?_
                  refine sm_69 hC (show ee_sc 177 46 (69, 0, 0, 1) = true by decide +kernel) (fun zc _ _ => ?_)
                  refine sm_45 hC (show ee_sc 177 47 (45, 0, 63, 3) = true by decide +kernel) (fun _ => fin at9 ls9 hat hl9) (fun _ => ?_)
                  refine sm_1 hC (show ee_sc 177 50 (1, 5, 0, 2) = true by decide +kernel) l5 ?_
                  refine sm_5 hC (show ee_sc 177 52 (5, 2147483649, 0, 1) = true by decide +kernel) (fun _ => ?_)
                  refine sm_10 (op := 10) (by decide) (by decide) hC (show ee_sc 177 53 (10, 0, 0, 1) = true by decide +kernel) (fun h9 => absurd h9 (by decide)) ?_
                  refine sm_54 hC (show ee_sc 177 54 (54, 316, 2147614719, 3) = true by decide +kernel) (fun _ => ?_)
                  refine sm_10 (op := 13) (by decide) (by decide) hC (show ee_sc 177 57 (13, 0, 0, 1) = true by decide +kernel) (fun h9 => absurd h9 (by decide)) ?_
                  have en : ee_fo 13 (ee_fo 10 (nI at9) (ee_x 2147483649)) (ee_x 2147614719) = nI ((at9 + 1) % 131072) := by
                    rw [jx_one, jx_msk]
                    show (nI at9 + nI 1) &&& nI 131071 = nI ((at9 + 1) % 131072)
                    rw [nI_add]
                    exact pk_andN (by omega) 17 (by decide +kernel)
                  rw [en]
                  have hsl : ab_sl [.inr (.inl 1), .inr (.inr 1), a2, a3, a4, .inl (0, 0, (at9 : Int))] 5 (.inl (0, 0, (((at9 + 1) % 131072 : Nat) : Int))) = some [.inr (.inl 1), .inr (.inr 1), a2, a3, a4, .inl (0, 0, (((at9 + 1) % 131072 : Nat) : Int))] := by
                    show (bif ab_isl a4 then none else some _) = some _
                    rw [c7]
                    rfl
                  obtain ⟨-, lv, hlv, hls⟩ := ab_lo_set hl9 hsl (v := .int (nI ((at9 + 1) % 131072))) ⟨_, rfl, by rw [nI_toInt (by omega)]; exact ab_ev0 rfl⟩
                  refine sm_3 hC (show ee_sc 177 58 (3, 5, 0, 2) = true by decide +kernel) hlv (by decide) (fun ls' hl' => ?_)
                  refine sm_48 hC (show ee_sc 177 60 (48, 0, 21, 3) = true by decide +kernel) ?_
                  exact ih _ (Nat.mod_lt _ (by decide)) (by omega) ls' (hls ls' hl')
              have exi := ab_i_nI (x := xi) (by omega)
              show W p l e R s m args below meth c H locs (ce + (ab_ph sv0.2.2.2.1 ks ws / 1024 - sv0.2.2.2.2.2 / 1024)) (sl + (ab_ph sv0.2.2.2.1 ks ws - sv0.2.2.2.2.2)) Q (F0 m 21 ls [])
              refine loop _ xi.toInt.toNat (by omega) rfl ls ?_
              obtain ⟨h1, lv, h2, h3⟩ := hl
              refine ⟨h1, lv, h2, fun i a ha9 => ?_⟩
              match i, ha9 with
              | 5, ha9 =>
                rcases h3 5 _ rfl with h4 | ⟨v, h4, h5⟩
                · cases h4
                · obtain ⟨xx, rfl, hxx⟩ := h5
                  rw [hxi] at hxx
                  have e9 : xi.toInt = xx.toInt := Option.some.inj hxx
                  have ha9' : (.inl (0, 0, ((xi.toInt.toNat : Nat) : Int)) : ab_A) = a := by simpa using ha9
                  subst ha9'
                  refine Or.inr ⟨_, h4, xx, rfl, ?_⟩
                  rw [ab_ev0 rfl, ← e9]
                  show some ((xi.toInt.toNat : Nat) : Int) = some xi.toInt
                  rw [Int.toNat_of_nonneg (by omega)]
              | 0, ha9 => exact h3 0 a ha9
              | 1, ha9 => exact h3 1 a ha9
              | 2, ha9 => exact h3 2 a ha9
              | 3, ha9 => exact h3 3 a ha9
              | 4, ha9 => exact h3 4 a ha9
              | i + 6, ha9 => simp at ha9
          · cases h
        · cases h
      · cases h
    · cases h
  · cases h
end OPR
def ab_mcP : ab_Mc := fun _ _ _ y S => bif Nat.beq y (nat_lit 177) && Nat.beq S.1 (nat_lit 21) then ab_opr S else none
theorem ab_mcP_snd {l : Launch} {D : va_G} {dA : Nat → ClassId} {xa : List Nat} {xt : ee_X} {B mask X : Nat} : ab_MS ab_cls l D dA xa xt B mask X 1 ab_mcP := by
  intro p e R s m args below meth c Q rv0 sv0 y d cC cS hk hd hR hcap hmask hXX hC hyM S L h kk
  unfold ab_mcP at h
  obtain ⟨hc, h⟩ := ab_bif h
  rw [Bool.and_eq_true] at hc
  have e1 : y = 177 := Nat.eq_of_beq_eq_true hc.1
  subst e1
  obtain ⟨pc, r⟩ := S
  have e2 : pc = 21 := Nat.eq_of_beq_eq_true hc.2
  subst e2
  exact as_pr hC h kk
