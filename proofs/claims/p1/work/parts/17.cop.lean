/-! ===== the reference's copies(from, to), by its loop ===== -/
theorem ee_keep_at {d : ee_V} {T : Nat} : ∀ {ov l : List (Nat × ee_V)}, ee_keep T ov = some l → (∀ q ∈ l, ¬ (T ≤ q.1 ∧ q.1 < T + 1580)) ∧ ∀ j, ¬ (T ≤ j ∧ j < T + 1580) → ee_at d l j = ee_at d ov j := by
  intro ov
  induction ov with
  | nil =>
    intro l h
    cases h
    exact ⟨fun q hq => absurd hq List.not_mem_nil, fun j _ => rfl⟩
  | cons q ov ih =>
    intro l h
    unfold ee_keep at h
    split at h
    · cases h
    · rename_i l' h2
      obtain ⟨i1, i2⟩ := ih h2
      cases hb : (Nat.ble T q.1 && Nat.blt q.1 (Nat.add T (nat_lit 1580))) with
      | true =>
        rw [ee_ct hb] at h
        cases h
        rw [Bool.and_eq_true] at hb
        have b1 : T ≤ q.1 := Nat.le_of_ble_eq_true hb.1
        have b2 : q.1 < T + 1580 := Nat.le_of_ble_eq_true hb.2
        refine ⟨i1, fun j hj => ?_⟩
        rw [i2 j hj]
        show _ = (bif Nat.beq q.1 j then q.2 else ee_at d ov j)
        rw [ee_cf (ee_bn (fun z => hj ⟨by omega, by omega⟩))]
      | false =>
        rw [ee_cf hb] at h
        cases h
        have hq : ¬ (T ≤ q.1 ∧ q.1 < T + 1580) := by
          intro z
          have : (Nat.ble T q.1 && Nat.blt q.1 (Nat.add T (nat_lit 1580))) = true := by
            rw [Bool.and_eq_true]
            exact ⟨Nat.ble_eq_true_of_le z.1, Nat.ble_eq_true_of_le z.2⟩
          rw [hb] at this
          cases this
        refine ⟨fun q' hq' => ?_, fun j hj => ?_⟩
        · rcases List.mem_cons.mp hq' with rfl | h
          · exact hq
          · exact i1 q' h
        · show (bif Nat.beq q.1 j then q.2 else ee_at d l' j) = (bif Nat.beq q.1 j then q.2 else ee_at d ov j)
          rw [i2 j hj]
theorem ee_move_at {d : ee_V} {F T : Nat} : ∀ {ov l : List (Nat × ee_V)}, ee_move F T ov = some l → ∀ j, ee_at d l j = if T ≤ j ∧ j < T + 1580 then ee_at d ov (F + (j - T)) else d := by
  intro ov
  induction ov with
  | nil =>
    intro l h
    cases h
    intro j
    show d = if _ then d else d
    simp
  | cons q ov ih =>
    intro l h j
    unfold ee_move at h
    split at h
    · cases h
    · rename_i l' h2
      have i2 := ih h2 j
      cases hb : (Nat.ble F q.1 && Nat.blt q.1 (Nat.add F (nat_lit 1580))) with
      | true =>
        rw [ee_ct hb, ee_f_eq] at h
        cases h
        rw [Bool.and_eq_true] at hb
        have b1 : F ≤ q.1 := Nat.le_of_ble_eq_true hb.1
        have b2 : q.1 < F + 1580 := Nat.le_of_ble_eq_true hb.2
        show (bif Nat.beq (Nat.add (Nat.sub q.1 F) T) j then q.2 else ee_at d l' j) = if T ≤ j ∧ j < T + 1580 then (bif Nat.beq q.1 (F + (j - T)) then q.2 else ee_at d ov (F + (j - T))) else d
        have e1 : Nat.add (Nat.sub q.1 F) T = q.1 - F + T := rfl
        rw [e1]
        by_cases hj : q.1 - F + T = j
        · rw [hj, ee_ct (Nat.beq_refl _), if_pos (by omega), show F + (j - T) = q.1 by omega, ee_ct (Nat.beq_refl _)]
        · rw [ee_cf (ee_bn hj), i2]
          by_cases hjT : T ≤ j ∧ j < T + 1580
          · rw [if_pos hjT, if_pos hjT, ee_cf (ee_bn (fun z => hj (by omega)))]
          · rw [if_neg hjT, if_neg hjT]
      | false =>
        rw [ee_cf hb] at h
        cases h
        rw [i2]
        by_cases hjT : T ≤ j ∧ j < T + 1580
        · rw [if_pos hjT, if_pos hjT]
          show _ = (bif Nat.beq q.1 (F + (j - T)) then q.2 else _)
          rw [ee_cf (ee_bn (fun z => ?_))]
          have : (Nat.ble F q.1 && Nat.blt q.1 (Nat.add F (nat_lit 1580))) = true := by
            rw [Bool.and_eq_true]
            exact ⟨Nat.ble_eq_true_of_le (by omega), Nat.ble_eq_true_of_le (show q.1 + 1 ≤ F + 1580 by omega)⟩
          rw [hb] at this
          cases this
        · rw [if_neg hjT, if_neg hjT]
theorem ee_app_at {d : ee_V} {mm : List (Nat × ee_V)} : ∀ {l ov : List (Nat × ee_V)}, ee_app l mm = some ov → ∀ j, ee_at d ov j = ee_at (ee_at d mm j) l j := by
  intro l
  induction l with
  | nil => intro ov h j; cases h; rfl
  | cons q l ih =>
    intro ov h j
    unfold ee_app at h
    split at h
    · cases h
    · rename_i l' h2
      cases h
      show (bif Nat.beq q.1 j then q.2 else ee_at d l' j) = (bif Nat.beq q.1 j then q.2 else ee_at (ee_at d mm j) l j)
      rw [ih h2 j]
theorem ee_at_dflt {d d' : ee_V} {j : Nat} : ∀ {l : List (Nat × ee_V)}, (∀ q ∈ l, q.1 ≠ j) → ee_at d l j = d
  | [], _ => rfl
  | q :: l, h => by
    show (bif Nat.beq q.1 j then q.2 else ee_at d l j) = d
    rw [ee_cf (ee_bn (h q List.mem_cons_self))]
    exact ee_at_dflt (d' := d') (fun q hq => h q (List.mem_cons_of_mem _ hq))
section ECK
variable {p : Program} {l : Launch} {e : Env} {R : Room} {s : State} {m : MethodId} {args : Array Value} {below : List Frame} {meth : Method} {c : Code} {Q : State → Prop} {D : va_G} {dA : Nat → ClassId} {xa : List Nat} {xt : ee_X} {B : Nat}
theorem ee_cop_loop (hC : ee_C p s m args meth c D dA xa xt B ee_yk) {ws : va_W} {k ka ax aa ff tt : Nat} {vs9 : List Value} {g : Nat → Int32} {fi : Nat} (hff : ff ≤ 4) (htt : tt ≤ 4) (hne : ff ≠ tt) (hk : ws[k]? = some (ax, .inr (11, vs9))) (hv0 : vs9[0]? = some (.ref aa)) (hka : ws[ka]? = some (aa, .inl (dA 0, 7900, .inl g)))
    (fin : ∀ (gi : Nat → Int32) (H : Heap) (locs : List Loc) (ls : Array Slot), (∀ j, gi j = if 1580 * tt ≤ j ∧ j < 1580 * tt + 1580 then g (1580 * ff + (j - 1580 * tt)) else g j) → va_P D ee_cl (ws.set ka (aa, .inl (dA 0, 7900, .inl gi))) H → va_D (fun q => B ≤ q) (ws.set ka (aa, .inl (dA 0, 7900, .inl gi))) → va_S (fun q => B ≤ q) s.heap H locs → W p l e R s m args below meth c H locs 0 0 Q (F0 m 39 ls [])) :
    ∀ (n i : Nat), i + n = 1580 → ∀ (gi : Nat → Int32) (H : Heap) (locs : List Loc) (ls : Array Slot), (∀ j, gi j = if 1580 * tt ≤ j ∧ j < 1580 * tt + i then g (1580 * ff + (j - 1580 * tt)) else g j) → va_P D ee_cl (ws.set ka (aa, .inl (dA 0, 7900, .inl gi))) H → va_D (fun q => B ≤ q) (ws.set ka (aa, .inl (dA 0, 7900, .inl gi))) → va_S (fun q => B ≤ q) s.heap H locs → lv_has ls 4 [(3, .int (nI i)), (0, .ref ax), (1, .int (nI ff)), (2, .int (nI tt))] →
      W p l e R s m args below meth c H locs 0 0 Q (F0 m 2 ls []) := by
  obtain ⟨hx, hb, hml, hown, hts, hG, hB, -⟩ := hC
  have hkk : k ≠ ka := fun z => by
    subst z
    rw [hk] at hka
    cases hka
  obtain ⟨C, T, N, fs0, ecx, ecl, -, -, hin, hty, hnm, hdecl, -, -, -⟩ := ee_cls (ci := 11) (by decide)
  have hN : 0 < N := by
    have : (ee_cx 11).2.2 = 22 := by decide +kernel
    rw [ecx] at this
    show 0 < N
    have h9 : N = 22 := this
    omega
  have hlen : ka < ws.length := (List.getElem?_eq_some_iff.mp hka).1
  have hlink : (Cond.fieldLink (ee_on.getD (ee_yc ee_yk) "") 7 C (T 0).2.1 (T 0).2.2.1).before args s = true := by
    refine hts _ (ee_word (y := ee_yk) (a := 7) (kind := 1) (b := 704) (by decide +kernel) (by decide) (by decide) (by decide) ?_)
    show some _ = some _
    rw [show (704 / 64 : Nat) = 11 from rfl, ecx]
  intro n
  induction n with
  | zero =>
    intro i hi gi H locs ls hgi hP hD hS hl
    have e1 : i = 1580 := by omega
    subst e1
    refine lv_iload_n hx hb (show decode (ee_cb ee_yk) 2 = .ok (.iload_n 3, 1) by decide +kernel) rfl (lv_at hl 0 rfl) ?_
    refine lv_sipush (v := nI 1580) hx hb (show decode (ee_cb ee_yk) 3 = .ok (.sipush 1580, 3) by decide +kernel) (by decide +kernel) ?_
    refine lv_icmp_ge (tgt := 39) hx hb (show decode (ee_cb ee_yk) 6 = .ok (.if_icmp .ge 33, 3) by decide +kernel) (by decide) (fun _ => ?_) (fun z => absurd (by decide +kernel) z)
    exact fin gi H locs ls hgi hP hD hS
  | succ n ih =>
    intro i hi gi H locs ls hgi hP hD hS hl
    have hw0 : (ws.set ka (aa, .inl (dA 0, 7900, .inl gi)))[k]? = some (ax, .inr (11, vs9)) := by rw [List.getElem?_set_ne (fun z => hkk z.symm)]; exact hk
    have hw1 : (ws.set ka (aa, .inl (dA 0, 7900, .inl gi)))[ka]? = some (aa, .inl (dA 0, 7900, .inl gi)) := List.getElem?_set_self hlen
    refine lv_iload_n hx hb (show decode (ee_cb ee_yk) 2 = .ok (.iload_n 3, 1) by decide +kernel) rfl (lv_at hl 0 rfl) ?_
    refine lv_sipush (v := nI 1580) hx hb (show decode (ee_cb ee_yk) 3 = .ok (.sipush 1580, 3) by decide +kernel) (by decide +kernel) ?_
    refine lv_icmp_ge (tgt := 39) hx hb (show decode (ee_cb ee_yk) 6 = .ok (.if_icmp .ge 33, 3) by decide +kernel) (by decide) (fun z => absurd z (nI_ge (by omega) (by omega))) (fun _ => ?_)
    refine lv_aload_n hx hb (show decode (ee_cb ee_yk) 9 = .ok (.aload_n 0, 1) by decide +kernel) rfl (lv_at hl 1 rfl) ?_
    refine va_get (ci := 11) (v := .ref aa) hx hb hts hin hown hG.1 hP k hw0 ecl 0 hN hlink (fun x h9 => by rw [hdecl _ hN] at h9; exact h9) hv0 (show decode (ee_cb ee_yk) 10 = .ok (.getfield 7, 3) by decide +kernel) ?_
    refine lv_sipush (v := nI 1580) hx hb (show decode (ee_cb ee_yk) 13 = .ok (.sipush 1580, 3) by decide +kernel) (by decide +kernel) ?_
    refine lv_iload_n hx hb (show decode (ee_cb ee_yk) 16 = .ok (.iload_n 2, 1) by decide +kernel) rfl (lv_at hl 3 rfl) ?_
    refine lv_imul hx hb (show decode (ee_cb ee_yk) 17 = .ok (.imul, 1) by decide +kernel) ?_
    refine lv_iload_n hx hb (show decode (ee_cb ee_yk) 18 = .ok (.iload_n 3, 1) by decide +kernel) rfl (lv_at hl 0 rfl) ?_
    refine lv_iadd hx hb (show decode (ee_cb ee_yk) 19 = .ok (.iadd, 1) by decide +kernel) ?_
    refine lv_aload_n hx hb (show decode (ee_cb ee_yk) 20 = .ok (.aload_n 0, 1) by decide +kernel) rfl (lv_at hl 1 rfl) ?_
    refine va_get (ci := 11) (v := .ref aa) hx hb hts hin hown hG.1 hP k hw0 ecl 0 hN hlink (fun x h9 => by rw [hdecl _ hN] at h9; exact h9) hv0 (show decode (ee_cb ee_yk) 21 = .ok (.getfield 7, 3) by decide +kernel) ?_
    refine lv_sipush (v := nI 1580) hx hb (show decode (ee_cb ee_yk) 24 = .ok (.sipush 1580, 3) by decide +kernel) (by decide +kernel) ?_
    refine lv_iload_n hx hb (show decode (ee_cb ee_yk) 27 = .ok (.iload_n 1, 1) by decide +kernel) rfl (lv_at hl 2 rfl) ?_
    refine lv_imul hx hb (show decode (ee_cb ee_yk) 28 = .ok (.imul, 1) by decide +kernel) ?_
    refine lv_iload_n hx hb (show decode (ee_cb ee_yk) 29 = .ok (.iload_n 3, 1) by decide +kernel) rfl (lv_at hl 0 rfl) ?_
    refine lv_iadd hx hb (show decode (ee_cb ee_yk) 30 = .ok (.iadd, 1) by decide +kernel) ?_
    rw [pk_mul, nI_add, pk_mul, nI_add]
    refine va_iald hx hb hG.1 hP ka 0 hw1 rfl (vp_in_nI (by omega) (by omega)) (show decode (ee_cb ee_yk) 31 = .ok (.iaload, 1) by decide +kernel) ?_
    refine va_iast hx hb hG.1 hP hD hS ka 0 hw1 rfl (vp_in_nI (by omega) (by omega)) (show decode (ee_cb ee_yk) 32 = .ok (.iastore, 1) by decide +kernel) (fun H1 locs1 hP1 hD1 hS1 => ?_)
    rw [nI_clamp (by omega), nI_clamp (by omega), List.set_set] at hP1 hD1
    refine lv_iinc (v := nI (i + 1)) (lv' := [(3, .int (nI (i + 1))), (0, .ref ax), (1, .int (nI ff)), (2, .int (nI tt))]) hx hb (show decode (ee_cb ee_yk) 33 = .ok (.iinc 3 1, 3) by decide +kernel) hl (k := 0) rfl (nI_1 i) (by decide) rfl (fun ls hl => ?_)
    refine lv_goto (tgt := 2) hx hb (show decode (ee_cb ee_yk) 36 = .ok (.goto (-34), 3) by decide +kernel) (by decide) ?_
    refine ih (i + 1) (by omega) _ H1 locs1 ls (fun j => ?_) hP1 hD1 hS1 hl
    by_cases hj : j = 1580 * tt + i
    · rw [hj, pk_us, hgi, if_neg (by omega), if_pos (by omega)]
      congr 1
      omega
    · rw [pk_un hj, hgi]
      by_cases hj2 : 1580 * tt ≤ j ∧ j < 1580 * tt + i
      · rw [if_pos hj2, if_pos (by omega)]
      · rw [if_neg hj2, if_neg (by omega)]
end ECK
theorem ee_ck {l : Launch} {D : va_G} {dA : Nat → ClassId} {xa : List Nat} {xt : ee_X} {B : Nat} : ee_CK l D dA xa xt B := by
  intro d As h h' rv c' s' hc ad
  unfold ee_cop at hc
  split at hc
  · rename_i h0 k f t
    split at hc
    · rename_i nd hnd
      split at hc
      · rename_i ka hfa
        split at hc
        · rename_i ar hka
          cases hcc : (Nat.beq nd.1 (nat_lit 11) && (Nat.beq ar.1 (nat_lit 0) && (Nat.beq ar.2.1 (nat_lit 7900) && (Nat.beq f.1 f.2 && (Nat.beq t.1 t.2 && (Nat.ble (nat_lit 2147483648) f.1 && (Nat.ble (nat_lit 2147483648) t.1 && (Nat.ble f.1 (nat_lit 2147483652) && (Nat.ble t.1 (nat_lit 2147483652) && !Nat.beq f.1 t.1))))))))) with
          | false => rw [ee_cf hcc] at hc; cases hc
          | true =>
            rw [ee_ct hcc] at hc
            obtain ⟨ff, hff⟩ : ∃ z, z = Nat.sub f.1 (nat_lit 2147483648) := ⟨_, rfl⟩
            obtain ⟨tt, htt⟩ : ∃ z, z = Nat.sub t.1 (nat_lit 2147483648) := ⟨_, rfl⟩
            rw [← hff, ← htt] at hc
            rw [ee_subL] at hff htt
            simp only [Bool.and_eq_true, Bool.not_eq_true'] at hcc
            obtain ⟨c1, c2, c3, c4, c5, c6, c7, c8, c9, c10⟩ := hcc
            have z1 : nd.1 = 11 := Nat.eq_of_beq_eq_true c1
            have z2 : ar.1 = 0 := Nat.eq_of_beq_eq_true c2
            have z3 : ar.2.1 = 7900 := Nat.eq_of_beq_eq_true c3
            have z4 : f.1 = f.2 := Nat.eq_of_beq_eq_true c4
            have z5 : t.1 = t.2 := Nat.eq_of_beq_eq_true c5
            have z6 : 2147483648 ≤ f.1 := Nat.le_of_ble_eq_true c6
            have z7 : 2147483648 ≤ t.1 := Nat.le_of_ble_eq_true c7
            have z8 : f.1 ≤ 2147483652 := Nat.le_of_ble_eq_true c8
            have z9 : t.1 ≤ 2147483652 := Nat.le_of_ble_eq_true c9
            have z10 : f.1 ≠ t.1 := fun z => by rw [z, Nat.beq_refl] at c10; cases c10
            simp only [ee_f_eq] at hc
            split at hc
            · rename_i kl ml hkl hml
              split at hc
              · rename_i ov hov
                split at hc
                · rename_i h9 hput
                  cases hc
                  obtain ⟨ci, fs⟩ := nd
                  obtain ⟨ta, na, da, oa⟩ := ar
                  dsimp only at z1 z2 z3
                  subst z1; subst z2; subst z3
                  have hat : ∀ j, ee_at da ov j = if 1580 * tt ≤ j ∧ j < 1580 * tt + 1580 then ee_at da oa (1580 * ff + (j - 1580 * tt)) else ee_at da oa j := by
                    intro j
                    obtain ⟨g1, g2⟩ := ee_keep_at (d := ee_at da ml j) hkl
                    have g3 := ee_move_at (d := da) hml j
                    rw [ee_app_at hov j]
                    by_cases hj : 1580 * tt ≤ j ∧ j < 1580 * tt + 1580
                    · rw [if_pos hj, ee_at_dflt (d' := da) (fun q hq z => g1 q hq (by rw [z]; exact hj)), g3]
                      exact if_pos hj
                    · rw [if_neg hj]
                      have g4 := g2 j hj
                      rw [g4, g3]
                      have : (if Nat.mul (nat_lit 1580) tt ≤ j ∧ j < Nat.mul (nat_lit 1580) tt + 1580 then ee_at da oa (Nat.mul (nat_lit 1580) ff + (j - Nat.mul (nat_lit 1580) tt)) else da) = da := if_neg hj
                      rw [this]
                  refine ee_met (y := ee_yk) (by decide) (by decide) (show 3 = ee_na ee_yk by decide +kernel) ?_
                  intro p e s m args below meth c hC
                  obtain ⟨hx, hb, hml9, hown, hts, hG, hB, hlk, hrt, hnm, hyM⟩ := id hC
                  intro ad1 ws H locs ls vs hp hwd hP hD hS hl hv
                  match vs, hv with
                  | [], _ =>
                    obtain ⟨hlen, lv, hlv, hall⟩ := hl
                    have hA0 : ∃ v, (0, v) ∈ lv ∧ ee_ok ad1 xa v (.inr (.inl (k + 1))) := by
                      rcases hall 0 (.inr (.inl (k + 1))) rfl with z | z
                      · cases z
                      · exact z
                    have hA1 : ∃ v, (1, v) ∈ lv ∧ ee_ok ad1 xa v (.inl f) := by
                      rcases hall 1 (.inl f) rfl with z | z
                      · cases z
                      · exact z
                    have hA2 : ∃ v, (2, v) ∈ lv ∧ ee_ok ad1 xa v (.inl t) := by
                      rcases hall 2 (.inl t) rfl with z | z
                      · cases z
                      · exact z
                    obtain ⟨v0, hm0, hok0⟩ := hA0
                    obtain ⟨v1, hm1, x1, rfl, hin1⟩ := hA1
                    obtain ⟨v2, hm2, x2, rfl, hin2⟩ := hA2
                    obtain ⟨ax, ex, rfl, hwk, -, vs9, rfl, hfs⟩ := ee_wd_at hwd hnd hok0
                    rw [ee_nth_eq] at hfa
                    obtain ⟨w9, hw9, hokw⟩ := ee_a2_get hfs hfa
                    obtain ⟨aa, ea, rfl, hwka, -, hnode⟩ := ee_wd_at hwd hka hokw
                    rcases hnode with ⟨hz, -⟩ | ⟨-, g, rfl, hg⟩ | ⟨hz, -⟩
                    · cases hz
                    · have hnum : ∀ (z : Nat × Nat) (n : Nat) (x : Int32), z.1 = z.2 → 2147483648 ≤ z.1 → n = z.1 - 2147483648 → n ≤ 4 → ee_in x z → x = nI n := by
                        intro z n x h1 h2 h3 h4 h5
                        apply ee_zinj
                        have h6 := ee_zi (nI n)
                        rw [nI_toInt (by omega)] at h6
                        have h7 := h5.1
                        have h8 := h5.2
                        omega
                      have e1 := hnum f ff x1 z4 z6 hff (by omega) hin1
                      have e2 := hnum t tt x2 z5 z7 htt (by omega) hin2
                      subst e1; subst e2
                      have hl3 : lv_has ls 4 [(0, .ref ax), (1, .int (nI ff)), (2, .int (nI tt))] := ⟨hlv.1, hlv.2.1, fun q hq => by
                        rcases List.mem_cons.mp hq with rfl | hq
                        · exact hlv.2.2 _ hm0
                        · rcases List.mem_cons.mp hq with rfl | hq
                          · exact hlv.2.2 _ hm1
                          · rw [List.mem_singleton.mp hq]
                            exact hlv.2.2 _ hm2⟩
                      refine lv_iconst (v := nI 0) hx hb (show decode (ee_cb ee_yk) 0 = .ok (.iconst 0, 1) by decide +kernel) (by decide +kernel) ?_
                      refine lv_istore_n (lv' := [(3, .int (nI 0)), (0, .ref ax), (1, .int (nI ff)), (2, .int (nI tt))]) hx hb (show decode (ee_cb ee_yk) 1 = .ok (.istore_n 3, 1) by decide +kernel) rfl hl3 (by decide) rfl (fun ls hl4 => ?_)
                      have hself : ws.set ka (aa, .inl (dA 0, 7900, .inl g)) = ws := by
                        apply List.ext_getElem?
                        intro i
                        by_cases hik : i = ka
                        · subst hik
                          rw [List.getElem?_set_self (List.getElem?_eq_some_iff.mp hwka).1, hwka]
                        · rw [List.getElem?_set_ne (fun z => hik z.symm)]
                      refine ee_cop_loop hC (fi := 0) (ff := ff) (tt := tt) (by omega) (by omega) (fun z => z10 (by omega)) hwk hw9 hwka ?_ 1580 0 rfl g H locs ls (fun j => by rw [if_neg (by omega)]) (by rw [hself]; exact hP) (by rw [hself]; exact hD) hS hl4
                      intro gi H1 locs1 ls1 hgi hP1 hD1 hS1
                      have hr0 : ee_rt ee_yk = none := by decide +kernel
                      refine W.vret hx hb (hrt.trans hr0) (fun tz ht hW => ⟨⟨none, ad1, _, rfl, trivial, hp, ee_wd_put hwd hwka hput (Or.inr (Or.inl ⟨Or.inl rfl, gi, rfl, fun j hj => ?_⟩)), by rw [ht]; exact hP1, hD1⟩, hS1.F ht⟩) hS1.2.2 (show decode (ee_cb ee_yk) 39 = .ok (.return_, 1) by decide +kernel) hlk
                      rw [hat j, hgi j]
                      by_cases hj2 : 1580 * tt ≤ j ∧ j < 1580 * tt + 1580
                      · rw [if_pos hj2, if_pos hj2]
                        exact hg _ (by omega)
                      · rw [if_neg hj2, if_neg hj2]
                        exact hg j hj
                    · exact absurd hz (by decide)
                · cases hc
              · cases hc
            · cases hc
        · cases hc
      · cases hc
    · cases hc
  · cases hc
