section ES4
variable {p : Program} {l : Launch} {e : Env} {R : Room} {s : State} {m : MethodId} {args : Array Value} {below : List Frame} {meth : Method} {c : Code} {Q : State → Prop} {D : va_G} {dA : Nat → ClassId} {xa : List Nat} {xt : ee_X} {B : Nat} {ad0 : List Nat} {y : Nat}
variable {pc a b n : Nat} {r : List ee_V × List ee_V × ee_H × Nat × Nat} {S' : ee_S}
theorem es_o27 (hC : ee_C p s m args meth c D dA xa xt B y) (hs : ee_sc y pc (27, a, b, n) = true) (h : ee_push (.inr (.inr (Nat.succ b))) n (pc, r) = some S') (k : ee_WS p l e R s m args below meth c Q D dA xa B ad0 y S') : ee_WS p l e R s m args below meth c Q D dA xa B ad0 y (pc, r) := by
  obtain ⟨lo, st, r⟩ := r
  obtain ⟨q, hq, hd, hn, hx, -⟩ := ee_sc_spec hs
  obtain ⟨he, hb, hml, hown, hts, hG, -⟩ := id hC
  cases (show some (Instr.getstatic a, 3) = some q from hq)
  cases hn
  have hx' : (ee_rsq y a 7 b && decide (b = 1)) = true := hx
  rw [Bool.and_eq_true] at hx'
  have hb1 := of_decide_eq_true hx'.2
  subst hb1
  cases h
  intro ad ws H locs ls vs hp hwd hP hD hS hl hv
  obtain ⟨ax, g1, g2⟩ := hG.2.2.2.2.1
  have k' := k ad ws H locs ls (.ref ax :: vs) hp hwd hP hD hS hl ⟨⟨ax, g1, rfl⟩, hv⟩
  exact va_gets he hb g2 hS hown (hts _ (ee_word hx'.1 (by decide) (by decide) (by decide) rfl)) (fun x h9 => h9) hd k'
/-- a load: of an int or boolean array (want 0, 2), of an array of references (want 3), of a row below B -/
theorem es_o28 {want op : Nat} (hop : (op = 28 ∧ want = 0) ∨ (op = 30 ∧ want = 3) ∨ (op = 32 ∧ want = 2)) (hC : ee_C p s m args meth c D dA xa xt B y) (hs : ee_sc y pc (op, a, b, n) = true) (h : ee_o28 xt want n (pc, r) = some S') (k : ee_WS p l e R s m args below meth c Q D dA xa B ad0 y S') : ee_WS p l e R s m args below meth c Q D dA xa B ad0 y (pc, r) := by
  obtain ⟨q, hq, hd, hn, hx, -⟩ := ee_sc_spec hs
  obtain ⟨he, hb, hml, hown, hts, hG, -⟩ := id hC
  have hlen : n = 1 := by
    rcases hop with ⟨rfl, -⟩ | ⟨rfl, -⟩ | ⟨rfl, -⟩
    · cases (show some (Instr.iaload, 1) = some q from hq); exact hn.symm
    · cases (show some (Instr.aaload, 1) = some q from hq); exact hn.symm
    · cases (show some (Instr.baload, 1) = some q from hq); exact hn.symm
  subst hlen
  unfold ee_o28 at h
  split at h
  · rename_i pc' lo w kk st hh r' heq
    cases heq
    split at h
    · rename_i nd hnd
      obtain ⟨t, N, d, ov⟩ := nd
      dsimp only at h
      cases h1 : (ee_kd t want && ee_ix w N) with
      | false => rw [ee_cf h1] at h; cases h
      | true =>
        rw [ee_ct h1, ee_f_eq] at h
        rw [Bool.and_eq_true] at h1
        change (match ee_at d ov (w.1 - 2147483648) with
          | .inl w => bif Nat.beq want (nat_lit 3) then none else some (Nat.add pc 1, lo, .inl w :: st, hh, r')
          | .inr w => bif Nat.beq want (nat_lit 3) && ee_isr (.inr w) then some (Nat.add pc 1, lo, .inr w :: st, hh, r') else none) = some S' at h
        intro ad ws H locs ls vs hp hwd hP hD hS hl hv
        match vs, hv with
        | vi :: vr :: vs, ⟨⟨iv, ei, hiv⟩, hok, hv⟩ =>
          subst ei
          obtain ⟨hvin, hcl, hlt⟩ := ee_ix_in h1.2 hiv
          obtain ⟨ax, ex, rfl, hws, -, hnode⟩ := ee_wd_at hwd hnd hok
          rcases hnode with ⟨ht, -⟩ | ⟨ht, f, rfl, hf⟩ | ⟨ht, ht6, g, rfl, hg⟩
          · subst ht
            rcases hop with ⟨-, rfl⟩ | ⟨-, rfl⟩ | ⟨-, rfl⟩ <;> cases h1.1
          · have hf1 := hf _ hlt
            generalize ee_at d ov (w.1 - 2147483648) = v9 at h hf1
            obtain ⟨q9, rfl⟩ : ∃ q9, v9 = .inl q9 := by
              match v9, h, hf1 with
              | .inl q9, _, _ => exact ⟨q9, rfl⟩
              | .inr (.inl 0), _, hf1 => cases (show (Value.int _ = Value.null) from hf1)
              | .inr (.inl (z + 1)), _, ⟨_, _, hf1⟩ => cases hf1
              | .inr (.inr 0), h, _ =>
                exfalso
                rcases hop with ⟨-, rfl⟩ | ⟨-, rfl⟩ | ⟨-, rfl⟩ <;> cases h
              | .inr (.inr (z + 1)), _, ⟨_, _, hf1⟩ => cases hf1
            rcases hop with ⟨rfl, rfl⟩ | ⟨rfl, rfl⟩ | ⟨rfl, rfl⟩
            · have e0 : t = 0 := Nat.eq_of_beq_eq_true (show Nat.beq t (nat_lit 0) = true from h1.1)
              subst e0
              cases (show some (Instr.iaload, 1) = some q from hq)
              cases h
              have k' := k ad ws H locs ls (.int (f (w.1 - 2147483648)) :: vs) hp hwd hP hD hS hl ⟨hf1, hv⟩
              refine va_iald he hb hG.1 hP kk 0 hws rfl hvin hd ?_
              rw [hcl]
              exact k'
            · cases (show none = some S' from h)
            · have e0 : t = 2 := Nat.eq_of_beq_eq_true (show Nat.beq t (nat_lit 2) = true from h1.1)
              subst e0
              cases (show some (Instr.baload, 1) = some q from hq)
              cases h
              have k' := k ad ws H locs ls (.int (f (w.1 - 2147483648)) :: vs) hp hwd hP hD hS hl ⟨hf1, hv⟩
              refine va_zald he hb hG.1 hP kk 2 hws rfl hvin hd ?_
              rw [hcl]
              exact k'
          · have hg1 := hg _ hlt
            generalize ee_at d ov (w.1 - 2147483648) = v9 at h hg1
            rcases hop with ⟨rfl, rfl⟩ | ⟨rfl, rfl⟩ | ⟨rfl, rfl⟩
            · have e0 : t = 0 := Nat.eq_of_beq_eq_true (show Nat.beq t (nat_lit 0) = true from h1.1)
              omega
            · cases (show some (Instr.aaload, 1) = some q from hq)
              have hS' : S' = (Nat.add pc 1, lo, v9 :: st, hh, r') := by
                match v9, h with
                | .inl q9, h => cases (show none = some S' from h)
                | .inr u, h =>
                  have h' : (cond (Nat.beq (nat_lit 3) (nat_lit 3) && ee_isr (.inr u)) (some (Nat.add pc 1, lo, (.inr u : ee_V) :: st, hh, r')) none) = some S' := h
                  have hz3 : Nat.beq (nat_lit 3) (nat_lit 3) = true := rfl
                  cases hz : ee_isr (.inr u) with
                  | false => rw [hz3, hz] at h'; cases h'
                  | true => rw [hz3, hz] at h'; cases h'; rfl
              subst hS'
              have k' := k ad ws H locs ls (va_rf (g (w.1 - 2147483648)) :: vs) hp hwd hP hD hS hl ⟨hg1, hv⟩
              rw [← hcl] at k'
              rcases (show t = 3 ∨ t = 4 ∨ t = 5 ∨ t = 6 by omega) with rfl | rfl | rfl | rfl
              · exact va_aldq he hb hG.1 hP kk 3 hws rfl hvin hd k'
              · exact va_aldq he hb hG.1 hP kk 4 hws rfl hvin hd k'
              · exact va_aldq he hb hG.1 hP kk 5 hws rfl hvin hd k'
              · exact va_aldq he hb hG.1 hP kk 6 hws rfl hvin hd k'
            · have e0 : t = 2 := Nat.eq_of_beq_eq_true (show Nat.beq t (nat_lit 2) = true from h1.1)
              omega
    · cases h
  · rename_i pc' lo w kk st hh r' heq
    cases heq
    split at h
    · rename_i L hL
      cases h1 : (Nat.beq want (nat_lit 0) && ee_ix w (ee_len L)) with
      | false => rw [ee_cf h1] at h; cases h
      | true =>
        rw [ee_ct h1] at h
        rw [Bool.and_eq_true, ee_len_eq] at h1
        split at h
        · rename_i w9 hw9
          cases h
          rw [ee_nth_eq] at hw9 hL
          have ew : want = 0 := Nat.eq_of_beq_eq_true h1.1
          rcases hop with ⟨rfl, -⟩ | ⟨-, h3⟩ | ⟨-, h3⟩
          · cases (show some (Instr.iaload, 1) = some q from hq)
            obtain ⟨ax, cell, g1, g2, g3, g4, g5, g6, g66, g7⟩ := hG.2.2.2.2.2 kk L hL
            intro ad ws H locs ls vs hp hwd hP hD hS hl hv
            match vs, hv with
            | vi :: vr :: vs, ⟨⟨iv, ei, hiv⟩, ⟨a2, ha2, er⟩, hv⟩ =>
              subst ei; subst er
              have h2 : xa[kk]? = some a2 := ha2
              rw [g1] at h2
              cases h2
              obtain ⟨hvin, hcl, hlt⟩ := ee_ix_in h1.2 hiv
              obtain ⟨x, hx1, hx2⟩ := g7 _ _ (show L[w.1 - 2147483648]? = some w9 from hw9)
              have k' := k ad ws H locs ls (.int x :: vs) hp hwd hP hD hS hl ⟨⟨x, rfl, hx2⟩, hv⟩
              obtain ⟨hCB⟩ : Nonempty (B ≤ s.heap.size) := ⟨hC.2.2.2.2.2.2.1⟩
              exact W.iald (v := .int x) he hb (by rw [hS.2.1 ax (by omega) (by show ¬ B ≤ ax; omega)]; exact g3) g4 g5 (fun z => z.elim (fun z => hvin (Or.inl z)) (fun z => absurd (show L.length ≤ iv.toNatClampNeg from Nat.le_trans g6 z) (by rw [hcl]; exact Nat.not_le.mpr hlt))) (by rw [hcl]; exact hx1) rfl rfl hd k'
          · omega
          · omega
        · cases h
    · cases h
  · cases h
theorem es_o34 (hC : ee_C p s m args meth c D dA xa xt B y) (hs : ee_sc y pc (34, a, b, n) = true) (h : ee_o34 xt n (pc, r) = some S') (k : ee_WS p l e R s m args below meth c Q D dA xa B ad0 y S') : ee_WS p l e R s m args below meth c Q D dA xa B ad0 y (pc, r) := by
  obtain ⟨q, hq, hd, hn, hx, -⟩ := ee_sc_spec hs
  obtain ⟨he, hb, hml, hown, hts, hG, hCB, -⟩ := id hC
  cases (show some (Instr.arraylength, 1) = some q from hq)
  cases hn
  have hnum : ∀ N : Nat, N < 2147483648 → ee_in (Int32.ofNat N) (Nat.add N (nat_lit 2147483648), Nat.add N (nat_lit 2147483648)) := by
    intro N hN
    have h1 : ee_z (Int32.ofNat N) = N + 2147483648 := by
      have h2 := ee_zi (Int32.ofNat N)
      have h3 : (Int32.ofNat N).toInt = (N : Int) := nI_toInt (n := N) (by omega)
      omega
    exact ⟨by rw [h1]; exact Nat.le_refl _, by rw [h1]; exact Nat.le_refl _⟩
  unfold ee_o34 at h
  split at h
  · rename_i pc' lo kk st hh r' heq
    cases heq
    split at h
    · rename_i nd hnd
      obtain ⟨t, N, d, ov⟩ := nd
      dsimp only at h
      cases h1 : Nat.blt N (nat_lit 2147483648) with
      | false => rw [ee_cf h1] at h; cases h
      | true =>
        rw [ee_ct h1, ee_f_eq] at h
        cases h
        have hN : N < 2147483648 := Nat.le_of_ble_eq_true h1
        intro ad ws H locs ls vs hp hwd hP hD hS hl hv
        match vs, hv with
        | vr :: vs, ⟨hok, hv⟩ =>
          obtain ⟨ax, ex, rfl, hws, -, hnode⟩ := ee_wd_at hwd hnd hok
          have k' := k ad ws H locs ls (.int (Int32.ofNat N) :: vs) hp hwd hP hD hS hl ⟨⟨_, rfl, hnum N hN⟩, hv⟩
          rcases hnode with ⟨rfl, f, rfl⟩ | ⟨ht, f, rfl, hf⟩ | ⟨ht, ht6, g, rfl, hg⟩
          · exact va_alen he hb hG.1 hP kk 1 hws rfl rfl hd k'
          · rcases ht with rfl | rfl
            · exact va_alen he hb hG.1 hP kk 0 hws rfl rfl hd k'
            · exact va_alen he hb hG.1 hP kk 2 hws rfl rfl hd k'
          · rcases (show t = 3 ∨ t = 4 ∨ t = 5 ∨ t = 6 by omega) with rfl | rfl | rfl | rfl
            · exact va_alen he hb hG.1 hP kk 3 hws rfl rfl hd k'
            · exact va_alen he hb hG.1 hP kk 4 hws rfl rfl hd k'
            · exact va_alen he hb hG.1 hP kk 5 hws rfl rfl hd k'
            · exact va_alen he hb hG.1 hP kk 6 hws rfl rfl hd k'
    · cases h
  · rename_i pc' lo kk st hh r' heq
    cases heq
    split at h
    · rename_i L hL
      cases h1 : Nat.blt (ee_len L) (nat_lit 2147483648) with
      | false => rw [ee_cf h1] at h; cases h
      | true =>
        rw [ee_ct h1, ee_f_eq] at h
        cases h
        have hN : ee_len L < 2147483648 := Nat.le_of_ble_eq_true h1
        rw [ee_nth_eq] at hL
        obtain ⟨ax, cell, g1, g2, g3, g4, g5, g6, g66, g7⟩ := hG.2.2.2.2.2 kk L hL
        intro ad ws H locs ls vs hp hwd hP hD hS hl hv
        match vs, hv with
        | vr :: vs, ⟨⟨a2, ha2, er⟩, hv⟩ =>
          subst er
          have h2 : xa[kk]? = some a2 := ha2
          rw [g1] at h2
          cases h2
          have k' := k ad ws H locs ls (.int (Int32.ofNat (ee_len L)) :: vs) hp hwd hP hD hS hl ⟨⟨_, rfl, hnum _ hN⟩, hv⟩
          exact W.alen (n := Int32.ofNat (ee_len L)) he hb (by rw [hS.2.1 ax (by omega) (by show ¬ B ≤ ax; omega)]; exact g3) g4 (by rw [g66, ee_len_eq]) rfl rfl hd k'
    · cases h
  · cases h
end ES4
