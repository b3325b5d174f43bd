/-! ===== a state is under a template ===== -/
def ab_s0 (σ : List ab_L) : Bool := match σ with
  | f0 :: _ => ab_leq f0 (nat_lit 0, 1, 0)
  | [] => false
def ab_skk (σ : List ab_L) (key : ab_Key) : Option ab_Key := bif Nat.beq key.1 (nat_lit 0) || Nat.beq key.1 (nat_lit 2) then some key else bif Nat.beq key.1 (nat_lit 6) && !(ab_s0 σ) then none else (match ab_sf σ key.2 with
  | some g => some (key.1, g)
  | none => none)
def ab_idl : Nat → Nat → List ab_L → Bool
  | 0, _, _ => true
  | n + 1, i, f :: l => ab_leq f (i, 1, 0) && ab_idl n (Nat.succ i) l
  | _ + 1, _, [] => false
def ab_idr : Nat → Nat → List Nat → Bool
  | 0, _, _ => true
  | n + 1, i, r :: l => Nat.beq r i && ab_idr n (Nat.succ i) l
  | _ + 1, _, [] => false
def ab_leu : ab_A → Bool
  | .inr (.inr 0) => true
  | _ => false
def ab_dq (σ : List ab_L) (ρ : List Nat) (d d' : Nat × ab_Key) : Bool := (match ee_nth ρ d'.1 with
  | some r => Nat.beq r d.1
  | none => false) && (Nat.beq d'.2.1 d.2.1 && (bif Nat.beq d.2.1 (nat_lit 1) then (match ab_sf σ d'.2.2 with
    | some g => ab_feq g d.2.2
    | none => false) else Nat.beq d'.2.2.1 d.2.2.1))
def ab_leh (σ : List ab_L) (ρ : List Nat) (h t : ab_H) : Bool :=
  (ab_z2 (fun f q => match ab_bd h.1 f with
    | some p => decide (q.1 ≤ p.1) && decide (p.2 ≤ q.2)
    | none => false) σ t.1) && ((t.2.1.all fun r => match ee_nth σ r.1, ee_nth σ r.2.1 with
    | some f, some g => (match ab_dl h f g with
      | some d => decide (r.2.2 ≤ d)
      | none => false)
    | _, _ => false) && ((ab_z2 (fun r κ => match ee_nth h.2.2.1 r with
    | some κ' => Nat.beq κ' κ
    | none => false) ρ t.2.2.1) && ((t.2.2.2.1.all fun g => match ee_nth ρ g.1, ab_skk σ g.2.1 with
    | some r, some key => (match ab_ff h.2.2.2.1 r key with
      | some b => ab_en1 σ ρ g.2.2 b
      | none => false)
    | _, _ => false) && (h.2.2.2.2.all fun d => t.2.2.2.2.any fun d' => ab_dq σ ρ d d'))))
def ab_le (n0 m0 : Nat) (σ : List ab_L) (ρ : List Nat) (S T : ab_S) : Bool :=
  (Nat.beq S.1 T.1 && (Nat.ble S.2.2.2.2.1 T.2.2.2.2.1 && Nat.ble S.2.2.2.2.2 T.2.2.2.2.2)) && ((ab_idl n0 (nat_lit 0) σ && ab_idr m0 (nat_lit 0) ρ) && ((ab_z2 (fun a b => ab_leu a || ab_en1 σ ρ a b) T.2.1 S.2.1 && ab_z2 (ab_en1 σ ρ) T.2.2.1 S.2.2.1) && ab_leh σ ρ S.2.2.2.1 T.2.2.2.1))
theorem ab_idl_at : ∀ {n i : Nat} {l : List ab_L}, ab_idl n i l = true → ∀ j, j < n → l[j]? = some (i + j, 1, 0)
  | 0, _, _, _, j, hj => absurd hj (Nat.not_lt_zero j)
  | n + 1, i, f :: l, h, j, hj => by
    unfold ab_idl at h
    rw [Bool.and_eq_true] at h
    cases j with
    | zero => rw [ab_leq_eq h.1]; rfl
    | succ j =>
      have h9 := ab_idl_at h.2 j (by omega)
      have e9 : Nat.succ i + j = i + (j + 1) := by omega
      rw [e9] at h9
      simpa using h9
theorem ab_idr_at : ∀ {n i : Nat} {l : List Nat}, ab_idr n i l = true → ∀ j, j < n → l[j]? = some (i + j)
  | 0, _, _, _, j, hj => absurd hj (Nat.not_lt_zero j)
  | n + 1, i, r :: l, h, j, hj => by
    unfold ab_idr at h
    rw [Bool.and_eq_true] at h
    cases j with
    | zero => rw [Nat.eq_of_beq_eq_true h.1]; rfl
    | succ j =>
      have h9 := ab_idr_at h.2 j (by omega)
      have e9 : Nat.succ i + j = i + (j + 1) := by omega
      rw [e9] at h9
      simpa using h9
section LE2
variable {cls : Nat → List ab_Cl} {dA : Nat → ClassId} {xa : List Nat} {ks : List Nat} {ws : va_W} {rv rv' : List Int} {sv sv' : List (Nat × Nat)} {σ : List ab_L} {ρ : List Nat}
theorem ab_skk_ki (hS : ab_SG rv sv σ ρ rv' sv') {key key' : ab_Key} {i : Int} (h : ab_skk σ key = some key') (hi : ab_ki rv key' = some i) : ab_ki rv' key = some i ∧ key'.1 = key.1 := by
  obtain ⟨t9, f9⟩ := key
  unfold ab_skk at h
  dsimp only at h
  cases hc : (Nat.beq t9 (nat_lit 0) || Nat.beq t9 (nat_lit 2)) with
  | true =>
    rw [ee_ct hc] at h
    cases h
    rw [Bool.or_eq_true] at hc
    rcases hc with hc | hc
    · have e9 : t9 = 0 := Nat.eq_of_beq_eq_true hc
      subst e9
      exact ⟨hi, rfl⟩
    · have e9 : t9 = 2 := Nat.eq_of_beq_eq_true hc
      subst e9
      exact ⟨hi, rfl⟩
  | false =>
    rw [ee_cf hc] at h
    cases h6 : (Nat.beq t9 (nat_lit 6) && !(ab_s0 σ)) with
    | true => rw [ee_ct h6] at h; cases h
    | false =>
      rw [ee_cf h6] at h
      split at h
      · rename_i g9 hg9
        cases h
        refine ⟨?_, rfl⟩
        match t9, hc, h6, hi with
        | 0, hc, _, _ => cases hc
        | 1, _, _, hi => exact ab_sf_ev hS hg9 hi
        | 2, hc, _, _ => cases hc
        | 3, _, _, hi => exact ab_sf_ev hS hg9 hi
        | 4, _, _, hi => exact ab_sf_ev hS hg9 hi
        | 5, _, _, hi => exact ab_sf_ev hS hg9 hi
        | 6, _, h6, hi =>
          match σ, hS, hg9, h6 with
          | [], _, _, h6 => cases h6
          | f0 :: σ', hS, hg9, h6 =>
            have h7 : (!(ab_leq f0 (0, 1, 0))) = false := h6
            have h8 : ab_leq f0 (0, 1, 0) = true := by
              cases h9 : ab_leq f0 (0, 1, 0) with
              | true => rfl
              | false => rw [h9] at h7; cases h7
            have e0 : f0 = (0, 1, 0) := ab_leq_eq h8
            obtain ⟨z, z1, z2⟩ := hS.1.2 0 f0 rfl
            rw [e0] at z1
            have hi' : (match rv[0]?, ab_ev rv g9 with
              | some n, some x => some (n + x)
              | _, _ => none) = some i := hi
            show (match rv'[0]?, ab_ev rv' f9 with
              | some n, some x => some (n + x)
              | _, _ => none) = some i
            cases hn8 : rv[0]? with
            | none => rw [hn8] at hi'; cases hi'
            | some n8 =>
              cases hx8 : ab_ev rv g9 with
              | none => rw [hn8, hx8] at hi'; cases hi'
              | some x8 =>
                have z3 : ab_ev rv (0, 1, 0) = some n8 := by
                  unfold ab_ev
                  rw [if_neg (show ¬ ((1 : Int) = 0) by decide), hn8]
                  simp
                rw [z3] at z1
                cases z1
                rw [hn8, hx8] at hi'
                rw [z2, ab_sf_ev hS hg9 hx8]
                exact hi'
        | t9 + 7, _, _, hi => exact ab_sf_ev hS hg9 hi
      · cases h
theorem ab_leh_G {h : ab_H} (hG : ab_G cls dA xa ks ws rv sv h) {t : ab_H} (hS : ab_SG rv sv σ ρ rv' sv') (hl : ab_leh σ ρ h t = true) : ab_G cls dA xa ks ws rv' sv' t := by
  unfold ab_leh at hl
  rw [Bool.and_eq_true, Bool.and_eq_true, Bool.and_eq_true, Bool.and_eq_true] at hl
  obtain ⟨l1, l2, l3, l4, l5⟩ := hl
  obtain ⟨z1, z2⟩ := ab_z2_get l1
  obtain ⟨y1, y2⟩ := ab_z2_get l3
  refine ⟨⟨by rw [hS.1.1]; exact z1, fun i q hq => ?_⟩, fun r hr => ?_, ⟨by rw [hS.2.1]; exact y1, fun i κ hκ => ?_⟩, fun g hg => ?_, hG.2.2.2.2.1, fun k9 κ9 a9 e9 g1 g2 cc hc hp => ?_⟩
  · have hi : i < σ.length := by rw [z1]; exact (List.getElem?_eq_some_iff.mp hq).1
    have hf : σ[i]? = some σ[i] := List.getElem?_eq_getElem hi
    obtain ⟨b9, b1, b2⟩ := z2 i _ hf
    rw [hq] at b1
    cases b1
    obtain ⟨x, x1, x2⟩ := hS.1.2 i _ hf
    split at b2
    · rename_i p9 hp9
      rw [Bool.and_eq_true, decide_eq_true_eq, decide_eq_true_eq] at b2
      have b3 := ab_bd_in hG.1 hp9 x1
      exact ⟨x, x2, by omega, by omega⟩
    · cases b2
  · have h9 := List.all_eq_true.mp l2 r hr
    split at h9
    · rename_i f9 g9 hf9 hg9
      rw [ee_nth_eq] at hf9 hg9
      split at h9
      · rename_i d hd
        rw [decide_eq_true_eq] at h9
        obtain ⟨x, x1, x2⟩ := hS.1.2 _ _ hf9
        obtain ⟨u, u1, u2⟩ := hS.1.2 _ _ hg9
        have d9 := ab_dl_in hG.1 hG.2.1 x1 u1 hd
        exact ⟨x, u, x2, u2, by omega⟩
      · cases h9
    · cases h9
  · have hi : i < ρ.length := by rw [y1]; exact (List.getElem?_eq_some_iff.mp hκ).1
    have hf : ρ[i]? = some ρ[i] := List.getElem?_eq_getElem hi
    obtain ⟨b9, b1, b2⟩ := y2 i _ hf
    rw [hκ] at b1
    cases b1
    obtain ⟨q, q1, q2⟩ := hS.2.2 i _ hf
    split at b2
    · rename_i κ' hκ'
      have e9 : κ' = κ := Nat.eq_of_beq_eq_true b2
      subst e9
      rw [ee_nth_eq] at hκ'
      obtain ⟨q8, e8, w1, w2, w3⟩ := hG.2.2.1.2 _ _ hκ'
      rw [q1] at w1
      cases w1
      exact ⟨q, e8, q2, w2, w3⟩
    · cases b2
  · have h9 := List.all_eq_true.mp l4 g hg
    split at h9
    · rename_i r9 key9 hr9 hk9
      rw [ee_nth_eq] at hr9
      split at h9
      · rename_i b9 hb9
        obtain ⟨qf, ef, ii, vf, f1, f2, f3, f4, f5⟩ := hG.2.2.2.1 _ (ab_ff_in hb9)
        obtain ⟨q, q1, q2⟩ := hS.2.2 _ _ hr9
        have f1' : sv[r9]? = some qf := f1
        rw [q1] at f1'
        cases f1'
        obtain ⟨k1, k2⟩ := ab_skk_ki hS hk9 f3
        have f4' : ab_rd ef key9.1 ii = some vf := f4
        rw [k2] at f4'
        exact ⟨_, ef, ii, vf, q2, f2, k1, f4', ab_en1_ok hS h9 f5⟩
      · cases h9
    · cases h9
  · refine hG.2.2.2.2.2 k9 κ9 a9 e9 g1 g2 cc hc (fun p9 hm ho => hp p9 hm ?_)
    obtain ⟨d, hd, q, q1, q2, q3, q4⟩ := ho
    have h9 := List.all_eq_true.mp l5 d hd
    obtain ⟨d', hd', h8⟩ := List.any_eq_true.mp h9
    unfold ab_dq at h8
    rw [Bool.and_eq_true, Bool.and_eq_true] at h8
    obtain ⟨m1, m2, m3⟩ := h8
    split at m1
    · rename_i r9 hr9
      have e9 : r9 = d.1 := Nat.eq_of_beq_eq_true m1
      rw [ee_nth_eq] at hr9
      obtain ⟨q8, w1, w2⟩ := hS.2.2 _ _ hr9
      rw [e9, q1] at w1
      cases w1
      have e8 : d'.2.1 = d.2.1 := Nat.eq_of_beq_eq_true m2
      refine ⟨d', hd', q, w2, q2, e8.trans q3, ?_⟩
      obtain ⟨d1, t1, f1⟩ := d
      obtain ⟨d2, t2, f2⟩ := d'
      dsimp only at e8 m3 q3 q4 ⊢
      subst e8
      match t2, m3, q4 with
      | 0, m3, q4 =>
        have e7 : f2.1 = f1.1 := Nat.eq_of_beq_eq_true m3
        have q4' : some (f1.1 : Int) = some (p9.2 : Int) := q4
        show some (f2.1 : Int) = _
        rw [e7]
        exact q4'
      | 1, m3, q4 =>
        have m3' : (match ab_sf σ f2 with
          | some g => ab_feq g f1
          | none => false) = true := m3
        split at m3'
        · rename_i g9 hg9
          have q4' : ab_ev rv f1 = some (p9.2 : Int) := q4
          exact ab_sf_ev hS hg9 (ab_feq_ev m3' q4')
        · cases m3'
      | t2 + 2, m3, q4 =>
        exfalso
        have h9 : p9.1 ≤ 1 := by
          unfold ab_fps at hm
          rcases List.mem_append.mp hm with hm | hm
          · obtain ⟨l9, hl9, hm⟩ := List.mem_flatten.mp hm
            obtain ⟨g9, -, rfl⟩ := List.mem_map.mp hl9
            exact ab_fp_t hm
          · rcases List.mem_append.mp hm with hm | hm
            · exact ab_fp_t hm
            · split at hm
              · cases hm
              · exact ab_fp_t hm
        omega
    · cases m1
end LE2
