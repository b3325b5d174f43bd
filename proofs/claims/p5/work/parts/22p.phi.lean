/-! ===== what the Explorer's rows cost stays, where its two fields stay ===== -/
theorem ab_ln_obj {ws : va_W} {kk ax ci : Nat} {fs fs' : List Value} (hk : ws[kk]? = some (ax, .inr (ci, fs))) (vs : List Value) (a : Nat) : ab_ln (ws.set kk (ax, .inr (ci, fs'))) vs a = ab_ln ws vs a := by
  unfold ab_ln ab_ar
  cases hv : vs[a]? with
  | none => rfl
  | some v =>
    cases v with
    | ref q =>
      dsimp only
      rcases ab_find_set (yy := (ax, .inr (ci, fs'))) hk rfl q with h9 | ⟨h8, h9⟩
      · rw [h9]
      · rw [h8, h9]
    | _ => rfl
theorem ab_ln_arr {ws : va_W} {kk ax N : Nat} {cA : ClassId} {c1 c2 : (Nat → Int32) ⊕ ((Nat → Int64) ⊕ ((Nat → UInt32) ⊕ ((Nat → UInt64) ⊕ (Nat → Option Nat))))} (hk : ws[kk]? = some (ax, .inl (cA, N, c1))) (vs : List Value) (a : Nat) : ab_ln (ws.set kk (ax, .inl (cA, N, c2))) vs a = ab_ln ws vs a := by
  unfold ab_ln ab_ar
  cases hv : vs[a]? with
  | none => rfl
  | some v =>
    cases v with
    | ref q =>
      dsimp only
      rcases ab_find_set (yy := (ax, .inl (cA, N, c2))) hk rfl q with h9 | ⟨h8, h9⟩
      · rw [h9]
      · rw [h8, h9]
    | _ => rfl
theorem ab_ln_vs {ws : va_W} {vs vs' : List Value} {a : Nat} (h : vs'[a]? = vs[a]?) : ab_ln ws vs' a = ab_ln ws vs a := by
  unfold ab_ln ab_ar
  rw [h]
theorem ab_ph_put {ke : Option Nat} {ks : List Nat} {ws : va_W} {kk ax ci jj κ : Nat} {fs : List Value} {vv : Value} (hk : ws[kk]? = some (ax, .inr (ci, fs))) (hκ : ks[kk]? = some κ) (hj : ¬ (κ = 29 ∧ (jj = 2 ∨ jj = 4))) : ab_ph ke ks (ws.set kk (ax, .inr (ci, fs.set jj vv))) = ab_ph ke ks ws := by
  have hlt := (List.getElem?_eq_some_iff.mp hk).1
  cases ke with
  | none => rfl
  | some k =>
    unfold ab_ph
    dsimp only
    by_cases h29 : ks[k]? = some 29
    · rw [if_pos h29, if_pos h29]
      by_cases hkk : k = kk
      · subst hkk
        rw [hκ] at h29
        have e0 : κ = 29 := Option.some.inj h29
        rw [List.getElem?_set_self hlt, hk]
        dsimp only
        rw [ab_ln_obj hk, ab_ln_obj hk, ab_ln_vs (vs' := fs.set jj vv) (vs := fs) (a := 2) (List.getElem?_set_ne (fun z9 => hj ⟨e0, Or.inl z9⟩)), ab_ln_vs (vs' := fs.set jj vv) (vs := fs) (a := 4) (List.getElem?_set_ne (fun z9 => hj ⟨e0, Or.inr z9⟩))]
      · rw [List.getElem?_set_ne (fun z9 => hkk z9.symm)]
        cases hw : ws[k]? with
        | none => rfl
        | some q9 =>
          obtain ⟨a9, e9⟩ := q9
          cases e9 with
          | inl z9 => rfl
          | inr z9 =>
            obtain ⟨c9, v9⟩ := z9
            dsimp only
            rw [ab_ln_obj hk, ab_ln_obj hk]
    · rw [if_neg h29, if_neg h29]
theorem ab_ph_st {ke : Option Nat} {ks : List Nat} {ws : va_W} {kk ax N : Nat} {cA : ClassId} {c1 c2 : (Nat → Int32) ⊕ ((Nat → Int64) ⊕ ((Nat → UInt32) ⊕ ((Nat → UInt64) ⊕ (Nat → Option Nat))))} (hk : ws[kk]? = some (ax, .inl (cA, N, c1))) : ab_ph ke ks (ws.set kk (ax, .inl (cA, N, c2))) = ab_ph ke ks ws := by
  have hlt := (List.getElem?_eq_some_iff.mp hk).1
  cases ke with
  | none => rfl
  | some k =>
    unfold ab_ph
    dsimp only
    by_cases h29 : ks[k]? = some 29
    · rw [if_pos h29, if_pos h29]
      by_cases hkk : k = kk
      · subst hkk
        rw [List.getElem?_set_self hlt, hk]
      · rw [List.getElem?_set_ne (fun z9 => hkk z9.symm)]
        cases hw : ws[k]? with
        | none => rfl
        | some q9 =>
          obtain ⟨a9, e9⟩ := q9
          cases e9 with
          | inl z9 => rfl
          | inr z9 =>
            obtain ⟨c9, v9⟩ := z9
            dsimp only
            rw [ab_ln_arr hk, ab_ln_arr hk]
    · rw [if_neg h29, if_neg h29]
theorem ab_ko29 : ∃ ts, ab_ko 29 = some (8, ts) ∧ ts[2]? = some (.inr (.inl 60)) ∧ ts[4]? = some (.inr (.inl 62)) := ⟨_, rfl, rfl, rfl⟩
/-- the Explorer's rows are where its fields say -/
theorem ab_ar_typed {A : Nat → Prop} {dA : Nat → ClassId} {ks : List Nat} {ws : va_W} (hT : ab_TW dA ks ws) (hD : va_D A ws) {vs : List Value} {a n κ : Nat} {v : Value} (hv : vs[a]? = some v) (ht : ab_tv ks (ws.map (·.1)) v (.inr (.inl n))) (hn : n % 2 = 0) (hκ : n / 2 = κ) : ∃ (k' a' : Nat) (e' : va_E), ks[k']? = some κ ∧ ws[k']? = some (a', e') ∧ ab_cell dA ks (ws.map (·.1)) κ e' ∧ ab_ar ws vs a = some (a', e') := by
  rcases ht with ⟨k', a', h1, h2, h3⟩ | ⟨h1, -⟩
  · rw [hκ] at h1
    obtain ⟨a9, e9, w1, w2⟩ := hT.2 k' κ h1
    rw [List.getElem?_map, w1] at h2
    have e0 : a9 = a' := Option.some.inj h2
    subst e0
    refine ⟨k', a9, e9, h1, w1, w2, ?_⟩
    unfold ab_ar
    rw [hv, h3]
    dsimp only
    cases hf : ws.find? (fun z => z.1 == a9) with
    | none =>
      have h6 := List.find?_eq_none.mp hf (a9, e9) (List.mem_of_getElem? w1)
      exact absurd (by simp) h6
    | some q =>
      have h7 := List.find?_some hf
      have h8 : q.1 = a9 := by simpa using h7
      obtain ⟨k7, hk7⟩ := List.getElem?_of_mem (List.mem_of_find?_eq_some hf)
      have hkk : k7 = k' := hD.1 k7 k' q _ hk7 w1 h8
      subst hkk
      rw [hk7] at w1
      rw [← Option.some.inj w1]
  · omega
theorem ab_ph_le {A : Nat → Prop} {dA : Nat → ClassId} {ke : Option Nat} {ks : List Nat} {ws : va_W} (hT : ab_TW dA ks ws) (hD : va_D A ws) : ab_ph ke ks ws ≤ 6291456 := by
  cases ke with
  | none => exact Nat.zero_le _
  | some k =>
    unfold ab_ph
    dsimp only
    by_cases h29 : ks[k]? = some 29
    · rw [if_pos h29]
      obtain ⟨a9, e9, w1, w2⟩ := hT.2 k 29 h29
      obtain ⟨ts, t1, t2, t3⟩ := ab_ko29
      obtain ⟨vs, rfl, v1, v2⟩ := w2.1 _ _ t1
      rw [w1]
      dsimp only
      obtain ⟨x2, y2, z2⟩ := v2 2 _ t2
      obtain ⟨x4, y4, z4⟩ := v2 4 _ t3
      obtain ⟨k2, a2, e2, g1, g2, g3, g4⟩ := ab_ar_typed (κ := 30) hT hD y2 z2 rfl rfl
      obtain ⟨k4, a4, e4, f1, f2, f3, f4⟩ := ab_ar_typed (κ := 31) hT hD y4 z4 rfl rfl
      have b2 : ab_ln ws vs 2 ≤ 1048576 := by
        unfold ab_ln
        rw [g4]
        rcases g3.2.1 0 0 1048576 rfl with ⟨-, n9, f9, rfl, -, h6, -⟩ | ⟨h9, -⟩ | ⟨h9, -⟩
        · dsimp only; omega
        · cases h9
        · omega
      have b4 : ab_ln ws vs 4 ≤ 2097152 := by
        unfold ab_ln
        rw [f4]
        rcases f3.2.1 0 0 2097152 rfl with ⟨-, n9, f9, rfl, -, h6, -⟩ | ⟨h9, -⟩ | ⟨h9, -⟩
        · dsimp only; omega
        · cases h9
        · omega
      omega
    · rw [if_neg h29]
      exact Nat.zero_le _
