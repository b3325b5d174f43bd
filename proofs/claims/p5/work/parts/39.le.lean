/-! ===== from a template to the states under it ===== -/
theorem ab_SG_mk {rv : List Int} {sv : List (Nat × Nat)} {σ : List ab_L} {ρ : List Nat} {iv : List (Int × Int)} {ks : List Nat} {ws : va_W} {rk : List Nat} (hI : ab_I rv iv) (hK : ab_Kn ks ws sv rk) (h1 : ∀ (i : Nat) (f : ab_L), σ[i]? = some f → ∃ q, ab_bd iv f = some q) (h2 : ∀ (i r : Nat), ρ[i]? = some r → ∃ κ, rk[r]? = some κ) : ∃ rv' sv', ab_SG rv sv σ ρ rv' sv' := by
  refine ⟨σ.map (fun f => (ab_ev rv f).getD 0), ρ.map (fun r => sv.getD r (0, 0)), ⟨by simp, fun i f hf => ?_⟩, ⟨by simp, fun i r hr => ?_⟩⟩
  · obtain ⟨q, hq⟩ := h1 i f hf
    have hev : ∃ x, ab_ev rv f = some x := by
      unfold ab_bd at hq
      by_cases h0 : f.2.1 = 0
      · exact ⟨_, ab_ev0 h0⟩
      · rw [ee_cf (by simpa using h0)] at hq
        split at hq
        · rename_i w9 hw9
          rw [ee_nth_eq] at hw9
          obtain ⟨z, z1, -⟩ := hI.2 _ _ hw9
          refine ⟨f.2.1 * z + f.2.2, ?_⟩
          unfold ab_ev
          rw [if_neg h0, z1]
          rfl
        · cases hq
    obtain ⟨x, hx⟩ := hev
    exact ⟨x, hx, by rw [List.getElem?_map, hf]; simp [hx]⟩
  · obtain ⟨κ, hκ⟩ := h2 i r hr
    obtain ⟨q, e9, w1, -⟩ := hK.2 _ _ hκ
    refine ⟨q, w1, ?_⟩
    rw [List.getElem?_map, hr]
    simp [List.getD_eq_getElem?_getD, w1]
/-- a state under a template: the template's names -/
theorem ab_le_fit {cls : Nat → List ab_Cl} {dA : Nat → ClassId} {xa ks : List Nat} {ws : va_W} {rv : List Int} {sv : List (Nat × Nat)} {n0 m0 nl : Nat} {σ : List ab_L} {ρ : List Nat} {S T : ab_S} (hle : ab_le n0 m0 σ ρ S T = true) {ls : Array Slot} {vs : List Value} (hG : ab_G cls dA xa ks ws rv sv S.2.2.2.1) (hl : ab_lo rv sv xa ls nl S.2.1) (hv : ab_a2 (ab_ok rv sv xa) vs S.2.2.1) :
    ∃ rv' sv', ab_SG rv sv σ ρ rv' sv' ∧ ab_G cls dA xa ks ws rv' sv' T.2.2.2.1 ∧ ab_lo rv' sv' xa ls nl T.2.1 ∧ ab_a2 (ab_ok rv' sv' xa) vs T.2.2.1 ∧ (∀ rv0 : List Int, rv0.length = n0 → rv0 <+: rv → rv0 <+: rv') ∧ (∀ sv0 : List (Nat × Nat), sv0.length = m0 → sv0 <+: sv → sv0 <+: sv') ∧ S.1 = T.1 ∧ S.2.2.2.2.1 ≤ T.2.2.2.2.1 ∧ S.2.2.2.2.2 ≤ T.2.2.2.2.2 := by
  unfold ab_le at hle
  rw [Bool.and_eq_true, Bool.and_eq_true, Bool.and_eq_true, Bool.and_eq_true, Bool.and_eq_true, Bool.and_eq_true, Bool.and_eq_true] at hle
  obtain ⟨⟨c1, c2, c3⟩, ⟨c4, c5⟩, ⟨c6, c7⟩, c8⟩ := hle
  obtain ⟨pc1, lo1, st1, h1, ce1, sl1⟩ := S
  obtain ⟨pc2, lo2, st2, h2, ce2, sl2⟩ := T
  dsimp only at c6 c7 c8 hG hl hv ⊢
  have c8' := c8
  unfold ab_leh at c8'
  rw [Bool.and_eq_true, Bool.and_eq_true, Bool.and_eq_true] at c8'
  obtain ⟨d1, -, d3, -⟩ := c8'
  obtain ⟨rv', sv', hSG⟩ := ab_SG_mk (σ := σ) (ρ := ρ) hG.1 hG.2.2.1 (fun i f hf => by
    obtain ⟨b9, -, b2⟩ := (ab_z2_get d1).2 i f hf
    split at b2
    · rename_i p9 hp9
      exact ⟨p9, hp9⟩
    · cases b2) (fun i r hr => by
    obtain ⟨b9, -, b2⟩ := (ab_z2_get d3).2 i r hr
    split at b2
    · rename_i κ' hκ'
      rw [ee_nth_eq] at hκ'
      exact ⟨κ', hκ'⟩
    · cases b2)
  refine ⟨rv', sv', hSG, ab_leh_G hG hSG c8, ?_, ab_z2_a2 (P := ab_ok rv' sv' xa) (P' := ab_ok rv sv xa) (fun v a b hab hb => ab_en1_ok hSG hab hb) c7 hv, ?_, ?_, Nat.eq_of_beq_eq_true c1, Nat.le_of_ble_eq_true c2, Nat.le_of_ble_eq_true c3⟩
  · obtain ⟨hlen, lv, hlv, hall⟩ := hl
    obtain ⟨y1, y2⟩ := ab_z2_get c6
    refine ⟨by omega, lv, hlv, fun i a ha => ?_⟩
    obtain ⟨b9, b1, b2⟩ := y2 i a ha
    rw [Bool.or_eq_true] at b2
    rcases b2 with b2 | b2
    · refine Or.inl ?_
      match a, b2 with
      | .inr (.inr 0), _ => rfl
    · rcases hall i b9 b1 with h9 | ⟨v, v1, v2⟩
      · subst h9
        exfalso
        match a, b2 with
        | .inl f, b2 => cases b2
        | .inr (.inl 0), b2 => cases b2
        | .inr (.inl (z + 1)), b2 => cases b2
        | .inr (.inr 0), b2 => cases b2
        | .inr (.inr (z + 1)), b2 => cases b2
      · exact Or.inr ⟨v, v1, ab_en1_ok hSG b2 v2⟩
  · intro rv0 hn0 hr0
    refine ab_pre_of (fun i x hx => ?_)
    have hi : i < rv0.length := (List.getElem?_eq_some_iff.mp hx).1
    have h9 := ab_idl_at c4 i (by omega)
    rw [Nat.zero_add] at h9
    obtain ⟨z, z1, z2⟩ := hSG.1.2 i _ h9
    have z3 : ab_ev rv (i, 1, 0) = some x := by
      unfold ab_ev
      rw [if_neg (show ¬ ((1 : Int) = 0) by decide), ab_pre hr0 hx]
      simp
    rw [z3] at z1
    cases z1
    exact z2
  · intro sv0 hm0 hs0
    refine ab_pre_of (fun i x hx => ?_)
    have hi : i < sv0.length := (List.getElem?_eq_some_iff.mp hx).1
    have h9 := ab_idr_at c5 i (by omega)
    rw [Nat.zero_add] at h9
    obtain ⟨z, z1, z2⟩ := hSG.2.2 i _ h9
    rw [ab_pre hs0 hx] at z1
    cases z1
    exact z2
section LE3
variable {cls : Nat → List ab_Cl} {p : Program} {l : Launch} {e : Env} {R : Room} {s : State} {m : MethodId} {args : Array Value} {below : List Frame} {meth : Method} {c : Code} {Q : State → Prop} {D : va_G} {dA : Nat → ClassId} {xa : List Nat} {xt : ee_X} {B : Nat} {rv0 : List Int} {sv0 : ab_B} {y : Nat}
theorem ab_WS_le {σ : List ab_L} {ρ : List Nat} {S T : ab_S} (hle : ab_le rv0.length sv0.1.length σ ρ S T = true) (k : ab_WS cls p l e R s m args below meth c Q D dA xa B rv0 sv0 y T) : ab_WS cls p l e R s m args below meth c Q D dA xa B rv0 sv0 y S := by
  intro ks ws rv sv H locs ls vs hr0 hs0 hG hP hD hS hl hv
  obtain ⟨rv', sv', -, g1, g2, g3, g4, g5, g6, g7, g8⟩ := ab_le_fit hle hG hl hv
  rw [g6]
  exact W.widen (Nat.add_le_add_right g7 _) (Nat.add_le_add_right g8 _) (k ks ws rv' sv' H locs ls vs (g4 rv0 rfl hr0) ⟨g5 sv0.1 rfl hs0.1, hs0.2⟩ g1 hP hD hS g2 g3)
end LE3
