/-! ===== the caller's heap behind a call ===== -/
theorem ab_wm_bit (m κ : Nat) : ab_wm m κ = m.testBit κ := by
  unfold ab_wm
  rw [Nat.testBit_eq_decide_div_mod_eq]
  have e1 : Nat.land (Nat.shiftRight m κ) (nat_lit 1) = m / 2 ^ κ % 2 := by
    show (m >>> κ) &&& 1 = _
    rw [Nat.and_one_is_mod, Nat.shiftRight_eq_div_pow]
  rw [e1]
  cases hb : Nat.beq (m / 2 ^ κ % 2) (nat_lit 1) with
  | true => exact (decide_eq_true (Nat.eq_of_beq_eq_true hb)).symm
  | false =>
    refine (decide_eq_false (fun h => ?_)).symm
    rw [h] at hb
    cases hb
theorem ab_wm_sub {mc mm : Nat} (h : Nat.beq (Nat.land mc mm) mc = true) {κ : Nat} (hk : ab_wm mc κ = true) : ab_wm mm κ = true := by
  have e1 : mc &&& mm = mc := Nat.eq_of_beq_eq_true h
  rw [ab_wm_bit] at hk ⊢
  rw [← e1, Nat.testBit_and, Bool.and_eq_true] at hk
  exact hk.2
/-- a block is good by its own places -/
theorem ab_c37_lo : ∀ c ∈ ab_c37, ∀ rr ∈ ab_rgs c, (rr.1 = 1 ∨ rr.1 = 4) ∧ rr.2.1 < 1580 := by
  have h : (ab_c37.all fun c => (ab_rgs c).all fun rr => (decide (rr.1 = 1) || decide (rr.1 = 4)) && decide (rr.2.1 < 1580)) = true := by decide +kernel
  intro c hc rr hrr
  have h9 := List.all_eq_true.mp (List.all_eq_true.mp h c hc) rr hrr
  rw [Bool.and_eq_true, Bool.or_eq_true, decide_eq_true_eq, decide_eq_true_eq, decide_eq_true_eq] at h9
  exact h9
theorem ab_gd_loc {f f' : Nat → Int32} (h : ∀ j, j < 1580 → f' j = f j) (hg : ab_gd f) : ab_gd f' := by
  obtain ⟨g1, g2, g3⟩ := hg
  refine ⟨fun j hj => by rw [h j hj]; exact g1 j hj, fun cA c hc => ?_, fun t ht l hl => ?_⟩
  · refine ab_hd_same2 (fun rr hrr => ?_) (g2 cA c hc)
    obtain ⟨h1, h2⟩ := ab_c37_lo c hc rr hrr
    obtain ⟨t1, t2, t3, t4⟩ := rr
    dsimp only at h1 h2
    rcases h1 with rfl | rfl
    · show (if t2 < 7900 then some (f' t2).toInt else none) = (if t2 < 7900 then some (f t2).toInt else none)
      rw [h t2 h2]
    · show (if (t2 < 7900 ∧ 1580 ≤ 7900 ∧ t3 < 4) ∧ 0 ≤ (f' t2).toInt ∧ (f' t2).toInt ≤ 19 then some (f' (540 + 200 * t3 + 4 * (f' t2).toInt.toNat)).toInt else none) = (if (t2 < 7900 ∧ 1580 ≤ 7900 ∧ t3 < 4) ∧ 0 ≤ (f t2).toInt ∧ (f t2).toInt ≤ 19 then some (f (540 + 200 * t3 + 4 * (f t2).toInt.toNat)).toInt else none)
      rw [h t2 h2]
      by_cases hc9 : (t2 < 7900 ∧ 1580 ≤ 7900 ∧ t3 < 4) ∧ 0 ≤ (f t2).toInt ∧ (f t2).toInt ≤ 19
      · rw [if_pos hc9, if_pos hc9, h _ (by omega)]
      · rw [if_neg hc9, if_neg hc9]
  · have h9 := g3 t ht l hl
    unfold ab_row7 at h9 ⊢
    rw [h (540 + 200 * t + 4 * l) (by omega), h (540 + 200 * t + 4 * l + 1) (by omega), h (540 + 200 * t + 4 * l + 2) (by omega), h (540 + 200 * t + 4 * l + 3) (by omega)]
    exact h9
/-- a block that stays -/
def ab_kp8 (X κ : Nat) (f : ab_F) : Bool := (Nat.beq κ (nat_lit 37) && Nat.beq f.2.1.1 (nat_lit 8)) && (decide (f.2.1.2.2.1 = 0) && (decide (1 ≤ f.2.1.2.2.2) && (decide (f.2.1.2.2.2 ≤ 4) && ab_wm X f.2.1.2.2.2.toNat)))
/-- a place of the reference's row that stays -/
def ab_kp1 (mX : Nat × Nat) (κ : Nat) (f : ab_F) : Bool := (Nat.beq κ (nat_lit 37) && Nat.beq f.2.1.1 (nat_lit 1)) && (decide (f.2.1.2.2.1 = 0) && ((decide (f.2.1.2.2.2 = 8) && !ab_wm mX.1 (nat_lit 99)) || (decide (1580 ≤ f.2.1.2.2.2) && ab_wm mX.2 (Nat.div f.2.1.2.2.2.toNat (nat_lit 1580)))))
def ab_kpf (mX : Nat × Nat) (rk : List Nat) : List ab_F → List ab_F
  | [] => []
  | f :: fs => bif Nat.beq f.2.1.1 (nat_lit 2) || (match ee_nth rk f.1 with
      | some κ => !ab_wm mX.1 κ || (ab_kp8 mX.2 κ f || ab_kp1 mX κ f)
      | none => false) then f :: ab_kpf mX rk fs else ab_kpf mX rk fs
theorem ab_kpf_in {mX : Nat × Nat} {rk : List Nat} {fs : List ab_F} {f : ab_F} (h : f ∈ ab_kpf mX rk fs) : f ∈ fs ∧ (f.2.1.1 = 2 ∨ ∃ κ, rk[f.1]? = some κ ∧ (ab_wm mX.1 κ = false ∨ (ab_kp8 mX.2 κ f || ab_kp1 mX κ f) = true)) := by
  induction fs with
  | nil => cases h
  | cons q l ih =>
    unfold ab_kpf at h
    cases hc : (Nat.beq q.2.1.1 (nat_lit 2) || (match ee_nth rk q.1 with
      | some κ => !ab_wm mX.1 κ || (ab_kp8 mX.2 κ q || ab_kp1 mX κ q)
      | none => false)) with
    | false =>
      rw [ee_cf hc] at h
      exact ⟨List.mem_cons_of_mem _ (ih h).1, (ih h).2⟩
    | true =>
      rw [ee_ct hc] at h
      rcases List.mem_cons.mp h with rfl | h
      · refine ⟨List.mem_cons_self, ?_⟩
        rw [Bool.or_eq_true] at hc
        rcases hc with hc | hc
        · exact Or.inl (Nat.eq_of_beq_eq_true hc)
        · split at hc
          · rename_i κ hκ
            rw [ee_nth_eq] at hκ
            rw [Bool.or_eq_true] at hc
            exact Or.inr ⟨κ, hκ, hc.imp (fun h9 => by simpa using h9) id⟩
          · cases hc
      · exact ⟨List.mem_cons_of_mem _ (ih h).1, (ih h).2⟩
def ab_sg (n ne : Nat) (σ : List ab_L) (x : ab_H) : List ab_L := ab_app σ (ab_ids n (ab_drp ne x.1))
def ab_rg (m me : Nat) (ρ : List Nat) (x : ab_H) : List Nat := ab_app ρ (ab_idn m (ab_drp me x.2.2.1))
def ab_nh (mX : Nat × Nat) (ne me : Nat) (σ' : List ab_L) (ρ' : List Nat) (h x : ab_H) (dt : List (Nat × ab_Key)) : ab_H :=
  (ab_app h.1 (ab_drp ne x.1), ab_app h.2.1 (ab_tr σ' x.2.1), ab_app h.2.2.1 (ab_drp me x.2.2.1), ab_app (ab_tf σ' ρ' x.2.2.2.1) (ab_kpf mX h.2.2.1 h.2.2.2.1), dt)
theorem ab_ar_ix {α : Type} {l m : List α} {n : Nat} (i : Nat) (hn : n = l.length) : (l ++ m)[n + i]? = m[i]? := by
  rw [List.getElem?_append_right (by omega)]
  congr 1
  omega
section CH
variable {cls : Nat → List ab_Cl} {dA : Nat → ClassId} {xa ks ks1 : List Nat} {ws ws1 : va_W} {rv rv1 rve : List Int} {sv sv1 sve : List (Nat × Nat)} {h x : ab_H} {σ : List ab_L} {ρ : List Nat}
theorem ab_call_SG (hI : ab_I rv h.1) (hK : sv.length = h.2.2.1.length) (hSG : ab_SG rv sv σ ρ rve sve) (hr1 : rve <+: rv1) (hs1 : sve <+: sv1) (hI1 : ab_I rv1 x.1) (hK1 : sv1.length = x.2.2.1.length) :
    ab_SG (rv ++ rv1.drop rve.length) (sv ++ sv1.drop sve.length) (ab_sg h.1.length rve.length σ x) (ab_rg h.2.2.1.length sve.length ρ x) rv1 sv1 := by
  have l1 : rve.length ≤ rv1.length := hr1.length_le
  have l2 : sve.length ≤ sv1.length := hs1.length_le
  have l3 : rv1.length = x.1.length := hI1.1
  have l4 := hSG.1.1
  have l5 := hSG.2.1
  unfold ab_sg ab_rg
  rw [ab_app_eq, ab_app_eq, ab_drp_eq, ab_drp_eq]
  refine ⟨⟨?_, fun i f hf => ?_⟩, ?_, fun i r hr => ?_⟩
  · rw [List.length_append, ab_ids_len, List.length_drop]
    omega
  · by_cases hi : i < σ.length
    · rw [List.getElem?_append_left hi] at hf
      obtain ⟨z, z1, z2⟩ := hSG.1.2 i f hf
      exact ⟨z, ab_ev_mono (List.prefix_append rv _) z1, ab_pre hr1 z2⟩
    · rw [List.getElem?_append_right (by omega), ab_ids_at] at hf
      split at hf
      · rename_i hlt
        cases hf
        rw [List.length_drop] at hlt
        have hi1 : i < rv1.length := by omega
        refine ⟨rv1[i], ?_, List.getElem?_eq_getElem hi1⟩
        unfold ab_ev
        rw [if_neg (show ¬ ((1 : Int) = 0) by decide)]
        show Option.map (fun z => 1 * z + 0) (rv ++ rv1.drop rve.length)[h.1.length + (i - σ.length)]? = _
        rw [ab_ar_ix _ (by rw [hI.1]), List.getElem?_drop, show rve.length + (i - σ.length) = i by omega, List.getElem?_eq_getElem hi1]
        simp
      · cases hf
  · rw [List.length_append, ab_idn_len, List.length_drop]
    omega
  · by_cases hi : i < ρ.length
    · rw [List.getElem?_append_left hi] at hr
      obtain ⟨z, z1, z2⟩ := hSG.2.2 i r hr
      exact ⟨z, ab_pre (List.prefix_append sv _) z1, ab_pre hs1 z2⟩
    · rw [List.getElem?_append_right (by omega), ab_idn_at] at hr
      split at hr
      · rename_i hlt
        cases hr
        rw [List.length_drop] at hlt
        have hi1 : i < sv1.length := by omega
        refine ⟨sv1[i], ?_, List.getElem?_eq_getElem hi1⟩
        rw [ab_ar_ix _ hK.symm, List.getElem?_drop, show sve.length + (i - ρ.length) = i by omega, List.getElem?_eq_getElem hi1]
      · cases hr
theorem ab_call_G {mask X b0 : Nat} {ke : Option Nat} {dt : List (Nat × ab_Key)} (hG : ab_G cls dA xa ks ws rv sv h) (hSG : ab_SG rv sv σ ρ rve sve) (hr1 : rve <+: rv1) (hpx : ab_px (sve, (ks, ws), ab_wm mask, ke, X, b0) ks1 ws1 sv1) (hG1 : ab_G cls dA xa ks1 ws1 rv1 sv1 x) (hkx : ∀ κ, κ ∈ h.2.2.1 → 45 ≤ κ → X.testBit κ = true)
    (htd : ab_td (ab_sg h.1.length rve.length σ x) (ab_rg h.2.2.1.length sve.length ρ x) x.2.2.2.2 = some dt) :
    ab_G cls dA xa ks1 ws1 (rv ++ rv1.drop rve.length) (sv ++ sv1.drop sve.length) (ab_nh (mask, X) rve.length sve.length (ab_sg h.1.length rve.length σ x) (ab_rg h.2.2.1.length sve.length ρ x) h x dt) := by
  have hS := ab_call_SG hG.1 hG.2.2.1.1 hSG hr1 hpx.1 hG1.1 hG1.2.2.1.1
  have l1 : rve.length ≤ rv1.length := hr1.length_le
  have l2 : sve.length ≤ sv1.length := hpx.1.length_le
  have l3 : rv1.length = x.1.length := hG1.1.1
  have l4 : sv1.length = x.2.2.1.length := hG1.2.2.1.1
  have l5 : rv.length = h.1.length := hG.1.1
  have l6 : sv.length = h.2.2.1.length := hG.2.2.1.1
  have hcell : ∀ (k κ a : Nat) (e : va_E), ks[k]? = some κ → ws[k]? = some (a, e) → ws1[k]? = some (a, e) ∨ (ab_wm mask κ = true ∧ ∃ e', ws1[k]? = some (a, e') ∧ ab_sm (ab_wm mask 99) X κ e e') := fun k κ a e h1 h2 => hpx.2.1.2.1 k κ (a, e) h1 h2
  unfold ab_nh
  rw [ab_app_eq, ab_app_eq, ab_app_eq, ab_app_eq, ab_drp_eq, ab_drp_eq]
  refine ⟨⟨?_, fun i q hq => ?_⟩, fun r hr => ?_, ⟨?_, fun i κ hκ => ?_⟩, fun f hf => ?_, hG1.2.2.2.2.1, fun k κ a e g1 g2 cc hc hp => hG1.2.2.2.2.2 k κ a e g1 g2 cc hc (fun pp hm ho => hp pp hm (ab_td_open hS htd ho))⟩
  · dsimp only
    rw [List.length_append, List.length_append, List.length_drop, List.length_drop]
    omega
  · dsimp only at hq
    by_cases hi : i < h.1.length
    · rw [List.getElem?_append_left hi] at hq
      obtain ⟨z, z1, z2⟩ := hG.1.2 i q hq
      exact ⟨z, ab_pre (List.prefix_append rv _) z1, z2⟩
    · rw [List.getElem?_append_right (by omega), List.getElem?_drop] at hq
      obtain ⟨z, z1, z2⟩ := hG1.1.2 _ q hq
      refine ⟨z, ?_, z2⟩
      rw [List.getElem?_append_right (by omega), List.getElem?_drop, l5]
      exact z1
  · dsimp only at hr
    rcases List.mem_append.mp hr with hr | hr
    · exact ab_Rl_mono (List.prefix_append rv _) hG.2.1 r hr
    · exact ab_tr_in hS hG1.2.1 r hr
  · dsimp only
    rw [List.length_append, List.length_append, List.length_drop, List.length_drop]
    omega
  · dsimp only at hκ
    by_cases hi : i < h.2.2.1.length
    · rw [List.getElem?_append_left hi] at hκ
      obtain ⟨q, e9, w1, w2, w3⟩ := hG.2.2.1.2 i κ hκ
      have hk1 := ab_kp_lt hpx.2.1.1 w2 (hkx κ (List.mem_of_getElem? hκ))
      rcases hcell q.1 κ q.2 e9 w2 w3 with h9 | ⟨-, e', h9, -⟩
      · exact ⟨q, e9, ab_pre (List.prefix_append sv _) w1, hk1, h9⟩
      · exact ⟨q, e', ab_pre (List.prefix_append sv _) w1, hk1, h9⟩
    · rw [List.getElem?_append_right (by omega), List.getElem?_drop] at hκ
      obtain ⟨q, e9, w1, w2, w3⟩ := hG1.2.2.1.2 _ κ hκ
      refine ⟨q, e9, ?_, w2, w3⟩
      rw [List.getElem?_append_right (by omega), List.getElem?_drop, l6]
      exact w1
  · dsimp only at hf
    rcases List.mem_append.mp hf with hf | hf
    · exact ab_tf_in hS hG1.2.2.2.1 f hf
    · obtain ⟨hm, hor⟩ := ab_kpf_in hf
      obtain ⟨qf, ef, ii, vf, f1, f2, f3, f4, f5⟩ := hG.2.2.2.1 f hm
      have hfl : f.1 < h.2.2.1.length := by rw [← l6]; exact (List.getElem?_eq_some_iff.mp f1).1
      obtain ⟨q, e9, w1, w2, w3⟩ := hG.2.2.1.2 f.1 _ (List.getElem?_eq_getElem hfl)
      rw [f1] at w1
      cases w1
      have p1 : rv <+: rv ++ rv1.drop rve.length := List.prefix_append rv _
      have p2 : sv <+: sv ++ sv1.drop sve.length := List.prefix_append sv _
      rcases hcell qf.1 _ qf.2 ef w2 f2 with h9 | ⟨h8, e', h9, h7⟩
      · exact ⟨qf, ef, ii, vf, ab_pre p2 f1, h9, ab_ki_mono p1 f3, f4, ab_ok_mono p1 p2 f5⟩
      · rcases hor with h6 | ⟨κ', h6, h5⟩
        · refine ⟨qf, e', ii, vf, ab_pre p2 f1, h9, ab_ki_mono p1 f3, ?_, ab_ok_mono p1 p2 f5⟩
          rw [h6] at f4 ⊢
          match ef, f4, h7 with
          | .inr z9, f4, _ => cases f4
          | .inl (cA, n9, c9), f4, h7 =>
            obtain ⟨c', hc'⟩ := h7.1 cA n9 c9 rfl
            rw [hc']
            exact f4
        · rw [List.getElem?_eq_getElem hfl] at h6
          rcases h5 with h5 | h5
          · rw [Option.some.inj h6] at h8
            rw [show ab_wm mask κ' = false from h5] at h8
            cases h8
          · rw [Bool.or_eq_true] at h5
            rcases h5 with h5 | h5
            · unfold ab_kp8 at h5
              simp only [Bool.and_eq_true, decide_eq_true_eq] at h5
              obtain ⟨⟨k1, k2⟩, k3, k4, k5, k6⟩ := h5
              have e37 : κ' = 37 := Nat.eq_of_beq_eq_true k1
              have e8 : f.2.1.1 = 8 := Nat.eq_of_beq_eq_true k2
              rw [Option.some.inj h6] at h7
              refine ⟨qf, e', ii, vf, ab_pre p2 f1, h9, ab_ki_mono p1 f3, ?_, ab_ok_mono p1 p2 f5⟩
              obtain ⟨gi, ⟨gt, gk⟩, ga⟩ := f
              dsimp only at e8 k3 k4 k5 k6 f3 f4 ⊢
              subst e8
              have f3' : ab_ev rv gk = some ii := f3
              unfold ab_ev at f3'
              rw [if_pos k3] at f3'
              have e3 : gk.2.2 = ii := Option.some.inj f3'
              obtain ⟨⟨cA9, n9, g9, he9, hn9, hgd⟩, hv9⟩ := ab_rd_q2 (t := 5) f4
              rw [hv9]
              subst he9
              obtain ⟨f', hf', hff⟩ := h7.2 e37 cA9 n9 g9 rfl
              rw [hf']
              have hn9' : n9 = 7900 := hn9
              have hgd' : ab_gd (fun j => g9 (1580 * ii.toNat + j)) := hgd
              have hbit : X.testBit ii.toNat = true := by
                rw [← ab_wm_bit, ← e3]
                exact k6
              refine ab_rd_q (t := 5) ⟨cA9, n9, f', rfl, hn9', ?_⟩
              refine ab_gd_loc (fun j hj => ?_) hgd'
              have e7 : (1580 * ii.toNat + j) / 1580 = ii.toNat := by omega
              exact hff (1580 * ii.toNat + j) (Or.inl ⟨by omega, by rw [e7]; exact hbit⟩)
            · unfold ab_kp1 at h5
              simp only [Bool.and_eq_true, Bool.or_eq_true, decide_eq_true_eq] at h5
              obtain ⟨⟨k1, k2⟩, k3, k4⟩ := h5
              have e37 : κ' = 37 := Nat.eq_of_beq_eq_true k1
              have e1 : f.2.1.1 = 1 := Nat.eq_of_beq_eq_true k2
              have w2' : ks[qf.1]? = some 37 := by rw [w2, Option.some.inj h6, e37]
              rw [Option.some.inj h6] at h7
              obtain ⟨a9, e9', u1, u2⟩ := hG.2.2.2.2.1.2 _ 37 w2'
              rw [f2] at u1
              cases u1
              obtain ⟨nn, g9, he9⟩ : ∃ (nn : Nat) (g9 : Nat → Int32), ef = .inl (dA 0, nn, .inl g9) := by
                rcases u2.2.1 0 7900 7900 (by decide +kernel) with ⟨-, nn, g9, he9, -⟩ | ⟨h8, -⟩ | ⟨h8, -⟩
                · exact ⟨nn, g9, he9⟩
                · cases h8
                · omega
              subst he9
              obtain ⟨f', hf', hff⟩ := h7.2 e37 _ nn g9 rfl
              refine ⟨qf, e', ii, vf, ab_pre p2 f1, h9, ab_ki_mono p1 f3, ?_, ab_ok_mono p1 p2 f5⟩
              obtain ⟨gi, ⟨gt, gk⟩, ga⟩ := f
              dsimp only at e1 k3 k4 f3 f4 ⊢
              subst e1
              have f3' : ab_ev rv gk = some ii := f3
              unfold ab_ev at f3'
              rw [if_pos k3] at f3'
              have e3 : gk.2.2 = ii := Option.some.inj f3'
              rw [e3] at k4
              have hx : f' ii.toNat = g9 ii.toNat := hff ii.toNat (k4.elim (fun k5 => Or.inr ⟨by have := k5.1; omega, by
                have k6 := k5.2
                cases hz : ab_wm mask 99 with
                | false => rfl
                | true =>
                  have k7 : (!ab_wm mask 99) = true := k6
                  rw [hz] at k7
                  cases k7⟩) (fun k5 => Or.inl ⟨by have := k5.1; omega, by
                rw [← ab_wm_bit]
                exact k5.2⟩))
              rw [hf']
              have f4' : (if 0 ≤ ii ∧ ii < (nn : Int) then some (Value.int (g9 ii.toNat)) else none) = some vf := f4
              show (if 0 ≤ ii ∧ ii < (nn : Int) then some (Value.int (f' ii.toNat)) else none) = some vf
              rw [hx]
              exact f4'
end CH
theorem ab_px_call {b : ab_B} {ks ks1 : List Nat} {ws ws1 : va_W} {sv sv' sve sv1 : List (Nat × Nat)} {mc Xc b1 : Nat} (h : ab_px b ks ws sv) (hc : ab_px (sve, (ks, ws), ab_wm mc, b.2.2.2.1, Xc, b1) ks1 ws1 sv1) (hb : b1 = ab_ph b.2.2.2.1 ks ws) (hm : ∀ κ, ab_wm mc κ = true → b.2.2.1 κ = true) (hX : ∀ b9, b.2.2.2.2.1.testBit b9 = true → Xc.testBit b9 = true) (hsv : sv <+: sv') : ab_px b ks1 ws1 sv' := by
  refine ⟨h.1.trans hsv, ⟨ab_kp_tr h.2.1.1 hc.2.1.1 hm hX, fun k κ q h1 h2 => ?_, hc.2.1.2.2⟩, ?_⟩
  · rcases h.2.1.1 k κ h1 with hk | ⟨hk1, hk2, -, κ', hk, -⟩
    rotate_left
    · have n37 : κ ≠ 37 := by omega
      rcases h.2.1.2.1 k κ q h1 h2 with h3 | ⟨h3, e', h4, h5⟩
      · rcases hc.2.1.2.1 k κ' q hk h3 with h6 | ⟨h6, e2, h7, h8⟩
        · exact Or.inl h6
        · exact Or.inr ⟨hk1, e2, h7, ab_sm_k n37 h8⟩
      · rcases hc.2.1.2.1 k κ' (q.1, e') hk h4 with h6 | ⟨h6, e2, h7, h8⟩
        · exact Or.inr ⟨h3, e', h6, h5⟩
        · exact Or.inr ⟨h3, e2, h7, ab_sm_tr h5 (ab_sm_k n37 h8)⟩
    rcases h.2.1.2.1 k κ q h1 h2 with h3 | ⟨h3, e', h4, h5⟩
    · rcases hc.2.1.2.1 k κ q hk h3 with h6 | ⟨h6, e2, h7, h8⟩
      · exact Or.inl h6
      · exact Or.inr ⟨hm κ h6, e2, h7, ab_sm_X (fun hz => by cases hq : ab_wm mc 99 with | false => exact hq | true => rw [hm 99 hq] at hz; cases hz) hX h8⟩
    · rcases hc.2.1.2.1 k κ (q.1, e') hk h4 with h6 | ⟨h6, e2, h7, h8⟩
      · exact Or.inr ⟨h3, e', h6, h5⟩
      · exact Or.inr ⟨h3, e2, h7, ab_sm_tr h5 (ab_sm_X (fun hz => by cases hq : ab_wm mc 99 with | false => exact hq | true => rw [hm 99 hq] at hz; cases hz) hX h8)⟩
  · have h9 : b1 ≤ ab_ph b.2.2.2.1 ks1 ws1 := hc.2.2
    have h8 := h.2.2
    omega
