/-! ===== a cell is made ===== -/
/-- fields whose rows clauses look at hold rows of a kind -/
def ab_cok2 (cls : Nat → List ab_Cl) : Prop := ∀ κ cc, cc ∈ cls κ → ∀ rr ∈ ab_rgs cc, rr.1 = 2 ∨ rr.1 = 3 → ∃ ci ts mm, ab_ko κ = some (ci, ts) ∧ ts[rr.2.1]? = some (.inr (.inl mm))
theorem ab_tv_ext {ks ks' ad ad' : List Nat} (h1 : ks <+: ks') (h2 : ad <+: ad') {v : Value} {t : ab_T} (h : ab_tv ks ad v t) : ab_tv ks' ad' v t := by
  match t, h with
  | .inl q, h => exact h
  | .inr (.inl n), .inl ⟨k9, a9, e1, e2, e3⟩ => exact Or.inl ⟨k9, a9, ab_pre h1 e1, ab_pre h2 e2, e3⟩
  | .inr (.inl n), .inr h => exact Or.inr h
  | .inr (.inr _), h => exact h
theorem ab_cell_ext {dA : Nat → ClassId} {ks ks' ad ad' : List Nat} (h1 : ks <+: ks') (h2 : ad <+: ad') {κ : Nat} {ee : va_E} (h : ab_cell dA ks ad κ ee) : ab_cell dA ks' ad' κ ee := by
  refine ⟨fun ci ts hk => ?_, fun t lo hi hk => ?_, h.2.2⟩
  · obtain ⟨vs, e1, e2, e3⟩ := h.1 ci ts hk
    refine ⟨vs, e1, e2, fun j t ht => ?_⟩
    obtain ⟨v, v1, v2⟩ := e3 j t ht
    exact ⟨v, v1, ab_tv_ext h1 h2 v2⟩
  · rcases h.2.1 t lo hi hk with ⟨a1, n, f, a2, a3, a4, a5⟩ | h9 | ⟨a0, a1, n, g, a2, a3, a4, a5⟩
    · exact Or.inl ⟨a1, n, f, a2, a3, a4, fun i hi => ab_tv_ext h1 h2 (a5 i hi)⟩
    · exact Or.inr (Or.inl h9)
    · exact Or.inr (Or.inr ⟨a0, a1, n, g, a2, a3, a4, fun i hi => ab_tv_ext h1 h2 (a5 i hi)⟩)
theorem ab_app_get {α : Type} {l : List α} {x w : α} {i : Nat} (h : (l ++ [x])[i]? = some w) : (i < l.length ∧ l[i]? = some w) ∨ (i = l.length ∧ w = x) := by
  by_cases hi : i < l.length
  · rw [List.getElem?_append_left hi] at h
    exact Or.inl ⟨hi, h⟩
  · rw [List.getElem?_append_right (by omega)] at h
    have h0 : i - l.length = 0 := by
      have := (List.getElem?_eq_some_iff.mp h).1
      simp at this
      omega
    rw [h0] at h
    have h' : x = w := by simpa using h
    exact Or.inr ⟨by omega, h'.symm⟩
section NW
variable {cls : Nat → List ab_Cl} {dA : Nat → ClassId} {xa : List Nat} {ks : List Nat} {ws : va_W} {rv : List Int} {sv : List (Nat × Nat)} {h : ab_H}
theorem ab_TW_new (hT : ab_TW dA ks ws) {κ qa : Nat} {ee : va_E} (hc : ab_cell dA ks (ws.map (·.1)) κ ee) : ab_TW dA (ks ++ [κ]) (ws ++ [(qa, ee)]) := by
  have p1 : ks <+: ks ++ [κ] := List.prefix_append ks [κ]
  have p2 : ws.map (·.1) <+: (ws ++ [(qa, ee)]).map (·.1) := by rw [List.map_append]; exact List.prefix_append _ _
  refine ⟨by simp [hT.1], fun k9 κ9 h9 => ?_⟩
  rcases ab_app_get h9 with ⟨hlt, h8⟩ | ⟨rfl, rfl⟩
  · obtain ⟨a9, e9, w1, w2⟩ := hT.2 k9 κ9 h8
    exact ⟨a9, e9, ab_pre (List.prefix_append ws _) w1, ab_cell_ext p1 p2 w2⟩
  · refine ⟨qa, ee, ?_, ab_cell_ext p1 p2 hc⟩
    rw [hT.1]
    simp
theorem ab_ar_new {qa : Nat} {ee : va_E} {vs : List Value} {aa : Nat} {w9 : Nat × va_E} (h9 : ab_ar ws vs aa = some w9) : ab_ar (ws ++ [(qa, ee)]) vs aa = some w9 := by
  unfold ab_ar at h9 ⊢
  split at h9
  · rw [List.find?_append, h9]
    rfl
  · cases h9
theorem ab_CL_new {dt : List (Nat × ab_Key)} (hCL : ab_CL cls ks ws rv sv dt) (hok : ab_cok2 cls) (hT : ab_TW dA ks ws) {κ qa : Nat} {ee : va_E} (hn : cls κ = []) : ab_CL cls (ks ++ [κ]) (ws ++ [(qa, ee)]) rv sv dt := by
  intro k9 κ9 a9 e9 g1 g2 cc hc hp
  rcases ab_app_get g1 with ⟨hlt, g1⟩ | ⟨rfl, rfl⟩
  · have g2' : ws[k9]? = some (a9, e9) := by
      rw [List.getElem?_append_left (by rw [← hT.1]; exact hlt)] at g2
      exact g2
    refine ab_hd_same2 (fun rr hr => ?_) (hCL k9 κ9 a9 e9 g1 g2' cc hc hp)
    by_cases h01 : rr.1 = 0 ∨ rr.1 = 1 ∨ rr.1 = 4
    · exact ab_cr_nows h01
    · by_cases h23 : rr.1 = 2 ∨ rr.1 = 3
      · obtain ⟨ci9, ts9, mm, o1, o2⟩ := hok κ9 cc hc rr hr h23
        obtain ⟨a8, e8, w1, w2⟩ := hT.2 k9 κ9 g1
        rw [g2'] at w1
        cases w1
        obtain ⟨vs8, x1, x2, x3⟩ := w2.1 _ _ o1
        subst x1
        obtain ⟨v8, y1, y2⟩ := x3 _ _ o2
        have har : ab_ar (ws ++ [(qa, ee)]) vs8 rr.2.1 = ab_ar ws vs8 rr.2.1 := by
          rcases y2 with ⟨k7, a7, z1, z2, z3⟩ | ⟨-, z3⟩
          · subst z3
            rw [List.getElem?_map] at z2
            cases hw7 : ws[k7]? with
            | none => rw [hw7] at z2; cases z2
            | some q7 =>
              rw [hw7] at z2
              have e7 : q7.1 = a7 := Option.some.inj z2
              cases hfd : ab_ar ws vs8 rr.2.1 with
              | some w9 => exact ab_ar_new hfd
              | none =>
                exfalso
                unfold ab_ar at hfd
                rw [y1] at hfd
                have h6 := List.find?_eq_none.mp hfd q7 (List.mem_of_getElem? hw7)
                exact h6 (by simpa using e7)
          · subst z3
            unfold ab_ar
            rw [y1]
        obtain ⟨t1, t2, t3, t4⟩ := rr
        rcases h23 with h2 | h2
        · have h2' : t1 = 2 := h2
          subst h2'
          show (match ab_ar (ws ++ [(qa, ee)]) vs8 t2 with
            | some (_, .inl (_, n, _)) => some (n : Int)
            | _ => none) = (match ab_ar ws vs8 t2 with
            | some (_, .inl (_, n, _)) => some (n : Int)
            | _ => none)
          rw [har]
        · have h2' : t1 = 3 := h2
          subst h2'
          show (match ab_ar (ws ++ [(qa, ee)]) vs8 t2, ab_fi vs8 t3 with
            | some (_, .inl (_, n, .inl f)), some x => if 0 ≤ x ∧ 4 * x + (t4 : Int) < (n : Int) then some (f (4 * x + t4).toNat).toInt else none
            | _, _ => none) = (match ab_ar ws vs8 t2, ab_fi vs8 t3 with
            | some (_, .inl (_, n, .inl f)), some x => if 0 ≤ x ∧ 4 * x + (t4 : Int) < (n : Int) then some (f (4 * x + t4).toNat).toInt else none
            | _, _ => none)
          rw [har]
      · obtain ⟨t1, t2, t3, t4⟩ := rr
        dsimp only at h01 h23
        match t1, h01, h23 with
        | 0, h01, _ => exact absurd (Or.inl rfl) h01
        | 1, h01, _ => exact absurd (Or.inr (Or.inl rfl)) h01
        | 2, _, h23 => exact absurd (Or.inl rfl) h23
        | 3, _, h23 => exact absurd (Or.inr rfl) h23
        | 4, h01, _ => exact absurd (Or.inr (Or.inr rfl)) h01
        | t1 + 5, _, _ =>
          match e9 with
          | .inl z9 => rw [ab_cr_arr (show t1 + 5 ≠ 1 ∧ t1 + 5 ≠ 4 by omega), ab_cr_arr (show t1 + 5 ≠ 1 ∧ t1 + 5 ≠ 4 by omega)]
          | .inr (ci, vs) => rfl
  · rw [hn] at hc
    cases hc
/-- the new cell gets a name -/
theorem ab_G_mk (hG : ab_G cls dA xa ks ws rv sv h) (hok : ab_cok2 cls) {κ qa : Nat} {ee : va_E} (hn : cls κ = []) (hc : ab_cell dA ks (ws.map (·.1)) κ ee) : ab_G cls dA xa (ks ++ [κ]) (ws ++ [(qa, ee)]) rv (sv ++ [(ws.length, qa)]) (h.1, h.2.1, ab_snoc h.2.2.1 κ, h.2.2.2) := by
  obtain ⟨g1, g2, ⟨i1, i2⟩, g4, g5, g6⟩ := hG
  have pk : ks <+: ks ++ [κ] := List.prefix_append ks [κ]
  have pw : ws <+: ws ++ [(qa, ee)] := List.prefix_append ws _
  have h1 : ab_G cls dA xa (ks ++ [κ]) (ws ++ [(qa, ee)]) rv sv h := by
    refine ⟨g1, g2, ⟨i1, fun i κ9 h9 => ?_⟩, fun f9 h9 => ?_, ab_TW_new g5 hc, ab_CL_new g6 hok g5 hn⟩
    · obtain ⟨q, e9, w1, w2, w3⟩ := i2 i κ9 h9
      exact ⟨q, e9, w1, ab_pre pk w2, ab_pre pw w3⟩
    · obtain ⟨qf, ef, ii, vf, f1, f2, f3, f4, f5⟩ := g4 f9 h9
      exact ⟨qf, ef, ii, vf, f1, ab_pre pw f2, f3, f4, f5⟩
  refine ab_G_ref (ee := ee) h1 ?_ ?_
  · rw [← g5.1]
    simp
  · simp
theorem ab_ph_new {A : Nat → Prop} {ke : Option Nat} (hT : ab_TW dA ks ws) (hD : va_D A ws) {κ : Nat} {q : Nat × va_E} (hκ : κ ≠ 29) : ab_ph ke (ks ++ [κ]) (ws ++ [q]) = ab_ph ke ks ws := by
  cases ke with
  | none => rfl
  | some k =>
    unfold ab_ph
    dsimp only
    by_cases h29 : ks[k]? = some 29
    · have hlt := (List.getElem?_eq_some_iff.mp h29).1
      rw [if_pos h29, if_pos (by rw [List.getElem?_append_left hlt]; exact h29)]
      obtain ⟨a9, e9, w1, w2⟩ := hT.2 k 29 h29
      obtain ⟨ts, t1, t2, t3⟩ := ab_ko29
      obtain ⟨vs, rfl, v1, v2⟩ := w2.1 _ _ t1
      rw [ab_pre (List.prefix_append ws [q]) w1, w1]
      dsimp only
      obtain ⟨x2, y2, z2⟩ := v2 2 _ t2
      obtain ⟨x4, y4, z4⟩ := v2 4 _ t3
      obtain ⟨k2, a2, e2, g1, g2, g3, g4⟩ := ab_ar_typed (κ := 30) hT hD y2 z2 rfl rfl
      obtain ⟨k4, a4, e4, f1, f2, f3, f4⟩ := ab_ar_typed (κ := 31) hT hD y4 z4 rfl rfl
      obtain ⟨q1, q2⟩ := q
      unfold ab_ln
      rw [ab_ar_new g4, g4, ab_ar_new f4, f4]
    · rw [if_neg h29, if_neg (fun z9 => ?_)]
      rcases ab_app_get z9 with ⟨-, h9⟩ | ⟨-, h9⟩
      · exact h29 h9
      · exact hκ h9.symm
end NW
