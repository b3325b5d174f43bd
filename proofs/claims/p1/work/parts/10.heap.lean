/-! ===== fields and arrays ===== -/
/-- what the check of a class says -/
theorem ee_cls {ci : Nat} (h : ci < 12) : ∃ (C : String) (T : u_T) (N : Nat) (fs : List ee_V), ee_cx ci = (C, T, N) ∧ ee_cl[ci]? = some (C, T, N) ∧ ee_df ci = some fs ∧ fs.length = N ∧ (∀ w ∈ u_ws C T N, w ∈ ee_good) ∧ (∀ k, k < N → parseFieldDescriptor (T k).2.2.1 = some (ee_ty ci k)) ∧ (∀ a, a < N → ∀ b, b < N → a ≠ b → (T a).2.1 ≠ (T b).2.1) ∧
    (∀ k, k < N → (T k).1 = C) ∧ Cond.instantiable C N ∈ ee_good ∧ Cond.initialized C ∈ ee_good ∧
    (∀ k, k < N → (ee_fk (64 * ci + k) = 0 ∧ ee_ty ci k = .int ∧ fs[k]? = some (.inl (2147483648, 2147483648))) ∨ (ee_fk (64 * ci + k) = 1 ∧ ee_ty ci k = .boolean ∧ fs[k]? = some (.inl (2147483648, 2147483648))) ∨ (ee_fk (64 * ci + k) = 2 ∧ ((∃ n, ee_ty ci k = .object n) ∨ ∃ t, ee_ty ci k = .array t) ∧ fs[k]? = some (.inr (.inl 0)))) := by
  have hk := ee_ckl ci h
  have hcl : ee_cl[ci]? = some (ee_cx ci) := by
    show ee_cl[ci]? = some (ee_cl.getD ci _)
    rw [List.getD_eq_getElem?_getD]
    have : ci < ee_cl.length := h
    rw [List.getElem?_eq_getElem this]
    rfl
  unfold ee_cok at hk
  generalize hcx : ee_cx ci = cx at hk hcl
  obtain ⟨C, T, N⟩ := cx
  generalize hlp : ee_lp.getD ci ([], 0, 0) = lp at hk
  obtain ⟨ps, pI, pN⟩ := lp
  cases hdf : ee_df ci with
  | none => rw [hdf] at hk; cases hk
  | some fs =>
    rw [hdf] at hk
    dsimp only at hk
    rw [Bool.and_eq_true, Bool.and_eq_true, Bool.and_eq_true] at hk
    obtain ⟨h1, h2, h3, h4⟩ := hk
    rw [List.all_eq_true] at h1
    have g : ∀ k, k < N → ee_gw (ps.getD k 0) (u_lay C T k) = true ∧ (parseFieldDescriptor (T k).2.2.1 = some (ee_ty ci k) ∧ (T k).1 = C) ∧ (List.range N).all (fun j => decide (k = j ∨ (T k).2.1 ≠ (T j).2.1)) = true ∧ (match ee_fk (64 * ci + k), ee_ty ci k, fs[k]? with
        | 0, .int, some (.inl (2147483648, 2147483648)) => true
        | 1, .boolean, some (.inl (2147483648, 2147483648)) => true
        | 2, .object _, some (.inr (.inl 0)) => true
        | 2, .array _, some (.inr (.inl 0)) => true
        | _, _, _ => false) = true := by
      intro k hkN
      have := h1 k (List.mem_range.mpr hkN)
      rw [Bool.and_eq_true, Bool.and_eq_true, Bool.and_eq_true] at this
      exact ⟨this.1, of_decide_eq_true this.2.1, this.2.2.1, this.2.2.2⟩
    refine ⟨C, T, N, fs, rfl, hcl, rfl, of_decide_eq_true h4, ?_, fun k hkN => (g k hkN).2.1.1, ?_, fun k hkN => (g k hkN).2.1.2, ee_gw_in h2, ee_gw_in h3, fun k hkN => ?_⟩
    · intro w hw
      obtain ⟨k, hk1, rfl⟩ := List.mem_map.mp hw
      exact ee_gw_in (g k (List.mem_range.mp hk1)).1
    · intro a ha b hb hab
      have := List.all_eq_true.mp (g a ha).2.2.1 b (List.mem_range.mpr hb)
      rcases of_decide_eq_true this with q | q
      · exact absurd q hab
      · exact q
    · have := (g k hkN).2.2.2
      generalize ee_fk (64 * ci + k) = fk at this ⊢
      generalize ee_ty ci k = ty at this ⊢
      generalize fs[k]? = fv at this ⊢
      split at this
      · exact Or.inl ⟨rfl, rfl, rfl⟩
      · exact Or.inr (Or.inl ⟨rfl, rfl, rfl⟩)
      · exact Or.inr (Or.inr ⟨rfl, Or.inl ⟨_, rfl⟩, rfl⟩)
      · exact Or.inr (Or.inr ⟨rfl, Or.inr ⟨_, rfl⟩, rfl⟩)
      · cases this
theorem ee_zcl {x : Int32} (h : 2147483648 ≤ ee_z x) : ¬ x < 0 ∧ x.toNatClampNeg = ee_z x - 2147483648 := by
  have h1 := ee_zi x
  refine ⟨fun q => ?_, ?_⟩
  · rw [ee_zltI, ee_z0] at q; omega
  · show x.toInt.toNat = _
    omega
theorem ee_ix_in {q : Nat × Nat} {n : Nat} (h : ee_ix q n = true) {x : Int32} (hx : ee_in x q) : vp_in x n ∧ x.toNatClampNeg = q.1 - 2147483648 ∧ q.1 - 2147483648 < n := by
  unfold ee_ix at h
  simp only [Bool.and_eq_true] at h
  have e1 : q.1 = q.2 := Nat.eq_of_beq_eq_true h.1
  have e2 : 2147483648 ≤ q.1 := Nat.le_of_ble_eq_true h.2.1
  have e3 : q.1 - 2147483648 < n := Nat.le_of_ble_eq_true h.2.2
  have h1 := hx.1
  have h2 := hx.2
  obtain ⟨g1, g2⟩ := ee_zcl (x := x) (by omega)
  have g4 : ee_z x = q.1 := by omega
  have g3 : x.toNatClampNeg = q.1 - 2147483648 := by rw [g2, g4]
  refine ⟨fun z => ?_, g3, e3⟩
  rcases z with z | z
  · exact g1 z
  · rw [g3] at z
    exact absurd e3 (Nat.not_lt.mpr z)
section ES3
variable {p : Program} {l : Launch} {e : Env} {R : Room} {s : State} {m : MethodId} {args : Array Value} {below : List Frame} {meth : Method} {c : Code} {Q : State → Prop} {D : va_G} {dA : Nat → ClassId} {xa : List Nat} {xt : ee_X} {B : Nat} {ad0 : List Nat} {y : Nat}
variable {pc a b n : Nat} {r : List ee_V × List ee_V × ee_H × Nat × Nat} {S' : ee_S}
theorem es_o25 (hC : ee_C p s m args meth c D dA xa xt B y) (hs : ee_sc y pc (25, a, b, n) = true) (h : ee_o25 b n (pc, r) = some S') (k : ee_WS p l e R s m args below meth c Q D dA xa B ad0 y S') : ee_WS p l e R s m args below meth c Q D dA xa B ad0 y (pc, r) := by
  obtain ⟨q, hq, hd, hn, hx, -⟩ := ee_sc_spec hs
  obtain ⟨he, hb, hml, hown, hts, hG, -⟩ := id hC
  cases (show some (Instr.getfield a, 3) = some q from hq)
  cases hn
  have hx' : (ee_rsq y a 1 b && decide (b / 64 < ee_cl.length ∧ b % 64 < (ee_cx (b / 64)).2.2)) = true := hx
  rw [Bool.and_eq_true] at hx'
  obtain ⟨g1, g2⟩ := of_decide_eq_true hx'.2
  obtain ⟨C, T, N, fs0, ecx, ecl, -, -, hin, hty, hnm, hdecl, -, -, -⟩ := ee_cls (ci := b / 64) g1
  rw [ecx] at g2
  unfold ee_o25 at h
  split at h
  · rename_i pc' lo kk st hh r' heq
    cases heq
    split at h
    · rename_i nd hnd
      obtain ⟨ci, fs⟩ := nd
      dsimp only at h
      cases h1 : Nat.beq ci (Nat.div b (nat_lit 64)) with
      | false => rw [ee_cf h1] at h; cases h
      | true =>
        rw [ee_ct h1] at h
        have e1 : ci = b / 64 := Nat.eq_of_beq_eq_true h1
        subst e1
        split at h
        · rename_i v hv0
          cases hvv : ee_isv v with
          | false => rw [ee_cf hvv] at h; cases h
          | true =>
            rw [ee_ct hvv] at h
            cases h
            intro ad ws H locs ls vs hp hwd hP hD hS hl hv
            match vs, hv with
            | w :: vs, ⟨hok, hv⟩ =>
              obtain ⟨ax, ex, rfl, hws, -, vs9, rfl, hfs⟩ := ee_wd_at hwd hnd hok
              rw [ee_nth_eq] at hv0
              obtain ⟨w9, hw9, hok9⟩ := ee_a2_get hfs hv0
              have k' := k ad ws H locs ls (w9 :: vs) hp hwd hP hD hS hl ⟨hok9, hv⟩
              refine va_get (ci := b / 64) (v := w9) he hb hts hin hown hG.1 hP kk hws ecl (b % 64) g2 (hts _ (ee_word hx'.1 (w := .fieldLink (ee_on.getD (ee_yc y) "") a C (T (b % 64)).2.1 (T (b % 64)).2.2.1) (by decide) (by decide) (by decide) (by show some _ = _; rw [ecx]))) (fun x h9 => by rw [hdecl _ g2] at h9; exact h9) hw9 hd k'
        · cases h
    · cases h
  · cases h
theorem ee_fit_ok {ad xa : List Nat} {ci k : Nat} {v : Value} {w : ee_V} {fk : Nat} {ty : FieldType} {fv : Option ee_V} (hf : ee_fit fk w = true) (hok : ee_ok ad xa v w)
    (hk : (fk = 0 ∧ ty = .int ∧ fv = some (.inl (2147483648, 2147483648))) ∨ (fk = 1 ∧ ty = .boolean ∧ fv = some (.inl (2147483648, 2147483648))) ∨ (fk = 2 ∧ ((∃ n, ty = .object n) ∨ ∃ t, ty = .array t) ∧ fv = some (.inr (.inl 0)))) : narrow ty v = v ∧ fits ty v = true := by
  match w, hf, hok with
  | .inl q, hf, ⟨x, e1, hin⟩ =>
    subst e1
    rcases hk with ⟨rfl, rfl, -⟩ | ⟨rfl, rfl, -⟩ | ⟨rfl, -, -⟩
    · exact ⟨rfl, rfl⟩
    · have hf' : (Nat.ble (nat_lit 2147483648) q.1 && Nat.ble q.2 (nat_lit 2147483649)) = true := hf
      rw [Bool.and_eq_true] at hf'
      have q1 : 2147483648 ≤ q.1 := Nat.le_of_ble_eq_true hf'.1
      have q2 : q.2 ≤ 2147483649 := Nat.le_of_ble_eq_true hf'.2
      have z1 := hin.1
      have z2 := hin.2
      have hz0 := ee_z0
      have hz1 : ee_z 1 = 2147483649 := by decide +kernel
      rcases (show ee_z x = 2147483648 ∨ ee_z x = 2147483649 by omega) with h | h
      · have : x = 0 := ee_zinj (by omega)
        subst this
        exact ⟨by decide +kernel, by decide +kernel⟩
      · have : x = 1 := ee_zinj (by omega)
        subst this
        exact ⟨by decide +kernel, by decide +kernel⟩
    · cases hf
  | .inr u, hf, hok =>
    rcases hk with ⟨rfl, rfl, -⟩ | ⟨rfl, rfl, -⟩ | ⟨rfl, hty, -⟩
    · cases hf
    · cases hf
    · rcases ee_ok_ref (show ee_isr (.inr u) = true from hf) hok with rfl | ⟨x, rfl⟩ <;> rcases hty with ⟨n, rfl⟩ | ⟨t, rfl⟩ <;> exact ⟨rfl, rfl⟩
theorem es_o26 (hC : ee_C p s m args meth c D dA xa xt B y) (hs : ee_sc y pc (26, a, b, n) = true) (h : ee_o26 b n (pc, r) = some S') (k : ee_WS p l e R s m args below meth c Q D dA xa B ad0 y S') : ee_WS p l e R s m args below meth c Q D dA xa B ad0 y (pc, r) := by
  obtain ⟨q, hq, hd, hn, hx, -⟩ := ee_sc_spec hs
  obtain ⟨he, hb, hml, hown, hts, hG, hB, hlk, hrt, hnm0, hyM⟩ := id hC
  cases (show some (Instr.putfield a, 3) = some q from hq)
  cases hn
  have hx' : (ee_rsq y a 1 b && (decide (b / 64 < ee_cl.length ∧ b % 64 < (ee_cx (b / 64)).2.2) && (!((ee_cx (b / 64)).2.1 (b % 64)).2.2.2 || decide ((ee_yn y).name = "<init>" ∧ ((ee_cx (b / 64)).2.1 (b % 64)).1 = (ee_yn y).cls)))) = true := hx
  rw [Bool.and_eq_true, Bool.and_eq_true] at hx'
  obtain ⟨g1, g2⟩ := of_decide_eq_true hx'.2.1
  obtain ⟨C, T, N, fs0, ecx, ecl, -, -, hin, hty, hnm, hdecl, -, -, hkind⟩ := ee_cls (ci := b / 64) g1
  have hx3 := hx'.2.2
  rw [ecx] at g2 hx3
  unfold ee_o26 at h
  split at h
  · rename_i pc' lo v kk st hh r' heq
    cases heq
    split at h
    · rename_i nd hnd
      obtain ⟨ci, fs⟩ := nd
      dsimp only at h
      cases h1 : (Nat.beq ci (Nat.div b (nat_lit 64)) && ee_fit (ee_fk b) v) with
      | false => rw [ee_cf h1] at h; cases h
      | true =>
        rw [ee_ct h1] at h
        rw [Bool.and_eq_true] at h1
        have e1 : ci = b / 64 := Nat.eq_of_beq_eq_true h1.1
        subst e1
        split at h
        · rename_i fs' hu
          split at h
          · rename_i h' hput
            cases h
            obtain ⟨u1, rfl⟩ := ee_upd_eq hu
            have u1 : b % 64 < fs.length := u1
            intro ad ws H locs ls vs hp hwd hP hD hS hl hv
            match vs, hv with
            | v9 :: w :: vs, ⟨hokv, hok, hv⟩ =>
              obtain ⟨ax, ex, rfl, hws, -, vs9, rfl, hfs⟩ := ee_wd_at hwd hnd hok
              have hlen := ee_a2_len hfs
              have hfk : ee_fk b = ee_fk (64 * (b / 64) + b % 64) := by rw [Nat.div_add_mod]
              obtain ⟨hnar, hfit⟩ := ee_fit_ok (ci := b / 64) (k := b % 64) (by rw [← hfk]; exact h1.2) hokv (hkind (b % 64) g2)
              have hlink := hts _ (ee_word hx'.1 (w := .fieldLink (ee_on.getD (ee_yc y) "") a C (T (b % 64)).2.1 (T (b % 64)).2.2.1) (by decide) (by decide) (by decide) (by show some _ = _; rw [ecx]))
              have hsame : ∀ x, s.fieldFound? (T (b % 64)).1 (T (b % 64)).2.1 (T (b % 64)).2.2.1 = some x → s.fieldFound? C (T (b % 64)).2.1 (T (b % 64)).2.2.1 = some x := fun x h9 => by rw [hdecl _ g2] at h9; exact h9
              have hgo : ∀ (H1 : Heap) (locs1 : List Loc), va_P D ee_cl (ws.set kk (ax, .inr (b / 64, vs9.set (b % 64) v9))) H1 → va_D (fun q => B ≤ q) (ws.set kk (ax, .inr (b / 64, vs9.set (b % 64) v9))) → va_S (fun q => B ≤ q) s.heap H1 locs1 → W p l e R s m args below meth c H1 locs1 r'.1 r'.2 Q (F0 m (pc + 3) ls vs) := by
                intro H1 locs1 hP1 hD1 hS1
                exact k ad _ H1 locs1 ls vs hp (ee_wd_put hwd hws hput ⟨_, rfl, ee_a2_set hokv hfs (b % 64)⟩) hP1 hD1 hS1 hl hv
              cases hfin : (T (b % 64)).2.2.2 with
              | false => exact va_put (ci := b / 64) he hb hts hin (ee_ty (b / 64)) hty hnm hown hG.1 hP hD hS kk hws ecl (b % 64) g2 hlink hsame hfin (hty _ g2) hnar hfit (by omega) hd hgo
              | true =>
                dsimp only at hx3
                rw [hfin] at hx3
                have hx4 := of_decide_eq_true (show decide ((ee_yn y).name = "<init>" ∧ (T (b % 64)).1 = (ee_yn y).cls) = true from hx3)
                have hcls : ee_on.getD (ee_yc y) "" = (ee_yn y).cls := ee_own hyM
                exact va_putF (ci := b / 64) he hb hts hin (ee_ty (b / 64)) hty hnm hown hG.1 hP hD hS kk hws ecl (b % 64) g2 hlink hsame hfin (hnm0.trans hx4.1) (hx4.2.trans hcls.symm) (hty _ g2) hnar hfit (by omega) hd hgo
          · cases h
        · cases h
    · cases h
  · cases h
end ES3
