/-! ===== new ===== -/
/-- kinds without clauses -/
def ab_nc (κ : Nat) : Bool := !(Nat.beq κ (nat_lit 0) || (Nat.beq κ (nat_lit 3) || (Nat.beq κ (nat_lit 14) || (Nat.beq κ (nat_lit 17) || (Nat.beq κ (nat_lit 18) || (Nat.beq κ (nat_lit 23) || (Nat.beq κ (nat_lit 29) || Nat.beq κ (nat_lit 37))))))))
def ab_dv (b j : Nat) : ab_A := bif Nat.beq (ee_fk (Nat.add (Nat.mul (nat_lit 64) b) j)) (nat_lit 2) then .inr (.inl (nat_lit 0)) else .inl (nat_lit 0, 0, 0)
def ab_d1 (b j : Nat) (t : ab_T) : Bool := match t with
  | .inl q => !Nat.beq (ee_fk (Nat.add (Nat.mul (nat_lit 64) b) j)) (nat_lit 2) && (decide (q.1 ≤ 0) && decide (0 ≤ q.2))
  | .inr (.inl m) => Nat.beq (ee_fk (Nat.add (Nat.mul (nat_lit 64) b) j)) (nat_lit 2) && Nat.beq (Nat.mod m (nat_lit 2)) (nat_lit 1)
  | .inr (.inr _) => true
def ab_dok (b : Nat) : List ab_T → Nat → Bool
  | [], _ => true
  | t :: ts, j => ab_d1 b j t && ab_dok b ts (Nat.succ j)
def ab_dfs (b i : Nat) : List ab_T → Nat → List ab_F → List ab_F
  | [], _, fs => fs
  | _ :: ts, j, fs => (i, (nat_lit 0, j, 0, 0), ab_dv b j) :: ab_dfs b i ts (Nat.succ j) fs
theorem ab_dok_at {b : Nat} : ∀ {ts : List ab_T} {j0 : Nat}, ab_dok b ts j0 = true → ∀ (j : Nat) (t : ab_T), ts[j]? = some t → ab_d1 b (j0 + j) t = true
  | [], j0, _, j, t, ht => by simp at ht
  | t0 :: ts, j0, hd, j, t, ht => by
    unfold ab_dok at hd
    rw [Bool.and_eq_true] at hd
    cases j with
    | zero =>
      have ht' : t0 = t := by simpa using ht
      subst ht'
      exact hd.1
    | succ j =>
      have h9 := ab_dok_at hd.2 j t (by simpa using ht)
      have e9 : Nat.succ j0 + j = j0 + (j + 1) := by omega
      rw [e9] at h9
      exact h9
theorem ab_dfs_in {b i : Nat} : ∀ {ts : List ab_T} {j0 : Nat} {fs : List ab_F} {g : ab_F}, g ∈ ab_dfs b i ts j0 fs → g ∈ fs ∨ ∃ j, j < ts.length ∧ g = (i, (0, j0 + j, 0, 0), ab_dv b (j0 + j))
  | [], j0, fs, g, hg => Or.inl hg
  | t0 :: ts, j0, fs, g, hg => by
    unfold ab_dfs at hg
    rcases List.mem_cons.mp hg with rfl | hg
    · exact Or.inr ⟨0, by simp, rfl⟩
    · rcases ab_dfs_in hg with h9 | ⟨j, hj, e9⟩
      · exact Or.inl h9
      · refine Or.inr ⟨j + 1, by simpa using hj, ?_⟩
        rw [e9]
        have e8 : Nat.succ j0 + j = j0 + (j + 1) := by omega
        rw [e8]
/-- a field's first value -/
theorem ab_dv_ok {rv : List Int} {sv : List (Nat × Nat)} {xa : List Nat} {b j : Nat} {ty : FieldType} {fv : Option ee_V} (hk : (ee_fk (64 * b + j) = 0 ∧ ty = .int ∧ fv = some (.inl (2147483648, 2147483648))) ∨ (ee_fk (64 * b + j) = 1 ∧ ty = .boolean ∧ fv = some (.inl (2147483648, 2147483648))) ∨ (ee_fk (64 * b + j) = 2 ∧ ((∃ n, ty = .object n) ∨ ∃ t, ty = .array t) ∧ fv = some (.inr (.inl 0)))) :
    ab_ok rv sv xa (defaultValue ty) (ab_dv b j) ∧ ∀ (ks ad : List Nat) (t : ab_T), ab_d1 b j t = true → ab_tv ks ad (defaultValue ty) t := by
  have e0 : Nat.add (Nat.mul (nat_lit 64) b) j = 64 * b + j := rfl
  unfold ab_dv ab_d1
  rw [e0]
  have int0 : ∀ f0, ee_fk (64 * b + j) = f0 → f0 ≠ 2 → defaultValue ty = .int 0 → ab_ok rv sv xa (defaultValue ty) (bif Nat.beq (ee_fk (64 * b + j)) (nat_lit 2) then .inr (.inl (nat_lit 0)) else .inl (nat_lit 0, 0, 0)) ∧ ∀ (ks ad : List Nat) (t : ab_T), (match t with
      | .inl q => !Nat.beq (ee_fk (64 * b + j)) (nat_lit 2) && (decide (q.1 ≤ 0) && decide (0 ≤ q.2))
      | .inr (.inl m) => Nat.beq (ee_fk (64 * b + j)) (nat_lit 2) && Nat.beq (Nat.mod m (nat_lit 2)) (nat_lit 1)
      | .inr (.inr _) => true) = true → ab_tv ks ad (defaultValue ty) t := by
    intro f0 hf h2 hd
    have hb : Nat.beq (ee_fk (64 * b + j)) (nat_lit 2) = false := by rw [hf]; exact ee_bn h2
    rw [hb, hd]
    refine ⟨⟨0, rfl, rfl⟩, fun ks ad t ht => ?_⟩
    match t, ht with
    | .inl q, ht =>
      have ht' : (true && (decide (q.1 ≤ 0) && decide (0 ≤ q.2))) = true := ht
      rw [Bool.and_eq_true, Bool.and_eq_true, decide_eq_true_eq, decide_eq_true_eq] at ht'
      exact ⟨0, rfl, ht'.2.1, ht'.2.2⟩
    | .inr (.inl m), ht => cases (show (false && _) = true from ht)
    | .inr (.inr z9), _ => exact Or.inr (Or.inr ⟨0, rfl⟩)
  rcases hk with ⟨h1, h2, -⟩ | ⟨h1, h2, -⟩ | ⟨h1, h2, -⟩
  · exact int0 0 h1 (by decide) (by rw [h2]; rfl)
  · exact int0 1 h1 (by decide) (by rw [h2]; rfl)
  · have hd : defaultValue ty = .null := by rcases h2 with ⟨n9, rfl⟩ | ⟨t9, rfl⟩ <;> rfl
    have hb : Nat.beq (ee_fk (64 * b + j)) (nat_lit 2) = true := by rw [h1]; rfl
    rw [hb, hd]
    refine ⟨rfl, fun ks ad t ht => ?_⟩
    match t, ht with
    | .inl q, ht => cases (show (false && _) = true from ht)
    | .inr (.inl m), ht => exact Or.inr ⟨Nat.eq_of_beq_eq_true (show Nat.beq (m % 2) 1 = true from ht), rfl⟩
    | .inr (.inr z9), _ => exact Or.inl rfl
def ab_o35 (cC cS κ b n : Nat) : ab_S → Option (List ab_S)
  | (pc, lo, st, h, ce, sl) => match ab_ko κ, ab_ka κ with
    | some q, none => bif (Nat.beq q.1 b && (Nat.beq (ee_len q.2) (ee_cx b).2.2 && ab_dok b q.2 (nat_lit 0))) && (ab_nc κ && (Nat.ble (Nat.succ ce) cC && Nat.ble (Nat.add sl (ee_cx b).2.2) cS)) then (ee_f (ee_len h.2.2.1) fun i => ee_f (Nat.add sl (ee_cx b).2.2) fun sl' => ee_f (Nat.succ ce) fun ce' => some [(Nat.add pc n, lo, .inr (.inl (Nat.succ (Nat.mul (nat_lit 2) i))) :: st, (h.1, h.2.1, ab_snoc h.2.2.1 κ, ab_dfs b i q.2 (nat_lit 0) h.2.2.2.1, h.2.2.2.2), ce', sl')]) else none
    | _, _ => none
section N1
variable {cls : Nat → List ab_Cl} {p : Program} {l : Launch} {e : Env} {R : Room} {s : State} {m : MethodId} {args : Array Value} {below : List Frame} {meth : Method} {c : Code} {Q : State → Prop} {D : va_G} {dA : Nat → ClassId} {xa : List Nat} {xt : ee_X} {B : Nat} {rv0 : List Int} {sv0 : ab_B} {y : Nat}
variable {pc a b n cC cS : Nat} {r : List ab_A × List ab_A × ab_H × Nat × Nat} {L : List ab_S}
theorem as_35 {κ : Nat} (hcap : cC + (6144 - sv0.2.2.2.2.2 / 1024) ≤ R.cells ∧ cS + (6291456 - sv0.2.2.2.2.2) ≤ R.slots) (hnc : ∀ κ, ab_nc κ = true → cls κ = []) (hcok : ab_cok2 cls) (hC : ee_C p s m args meth c D dA xa xt B y) (hs : ee_sc y pc (35, a, b, n) = true) (h : ab_o35 cC cS κ b n (pc, r) = some L) (k : ∀ S ∈ L, ab_WS cls p l e R s m args below meth c Q D dA xa B rv0 sv0 y S) : ab_WS cls p l e R s m args below meth c Q D dA xa B rv0 sv0 y (pc, r) := by
  obtain ⟨lo, st, hh, ce, sl⟩ := r
  unfold ab_o35 at h
  dsimp only at h
  split at h
  · rename_i q hko hka
    obtain ⟨ci, ts⟩ := q
    dsimp only at h
    cases hc : ((Nat.beq ci b && (Nat.beq (ee_len ts) (ee_cx b).2.2 && ab_dok b ts (nat_lit 0))) && (ab_nc κ && (Nat.ble (Nat.succ ce) cC && Nat.ble (Nat.add sl (ee_cx b).2.2) cS))) with
    | false => rw [ee_cf hc] at h; cases h
    | true =>
      rw [ee_ct hc] at h
      simp only [ee_f_eq, ee_len_eq] at h
      cases h
      rw [Bool.and_eq_true, Bool.and_eq_true, Bool.and_eq_true, Bool.and_eq_true, Bool.and_eq_true] at hc
      obtain ⟨⟨c1, c2, c3⟩, c4, c5, c6⟩ := hc
      have e1 : ci = b := Nat.eq_of_beq_eq_true c1
      subst e1
      have e2 : ts.length = (ee_cx ci).2.2 := by
        rw [← ee_len_eq]
        exact Nat.eq_of_beq_eq_true c2
      have c5' : ce + 1 ≤ cC := Nat.le_of_ble_eq_true c5
      have c6' : sl + (ee_cx ci).2.2 ≤ cS := Nat.le_of_ble_eq_true c6
      have k := k _ List.mem_cons_self
      obtain ⟨qx, hqx, hdx, hnx, hxx, -⟩ := ee_sc_spec hs
      have hx' : (ee_rsq y a 3 ci && decide (ci < ee_cl.length)) = true := hxx
      rw [Bool.and_eq_true] at hx'
      obtain ⟨C9, T9, N9, fs9, ecx, -, -, -, -, -, -, -, -, -, hkind⟩ := ee_cls (ci := ci) (of_decide_eq_true hx'.2)
      have hN : (ee_cx ci).2.2 = N9 := by rw [ecx]
      intro ks ws rv sv H locs ls vs hr0 hs0 hG hP hD hS hl hv
      have hph := ab_ph_le (ke := sv0.2.2.2.1) hG.2.2.2.2.1 hD
      have hb0 := hs0.2.2
      have hn29 : κ ≠ 29 := by
        rintro rfl
        cases (show ab_nc 29 = true from c4)
      refine sm_35 hC hs hP hD hS ⟨by dsimp only; omega, by dsimp only; omega⟩ (fun qa H1 hP1 hD1 hS1 => ?_)
      have hget : ∀ j, j < ts.length → ((List.range (ee_cx ci).2.2).map (fun j => defaultValue (ee_ty ci j)))[j]? = some (defaultValue (ee_ty ci j)) := by
        intro j hj
        rw [e2] at hj
        simp [hj]
      have hcell : ab_cell dA ks (ws.map (·.1)) κ (.inr (ci, (List.range (ee_cx ci).2.2).map (fun j => defaultValue (ee_ty ci j)))) := by
        refine ⟨fun ci9 ts9 h9 => ?_, fun t9 lo9 hi9 h9 => (by rw [hka] at h9; cases h9), ab_c3_no (by rintro rfl; cases hka) (by rintro rfl; cases hka)⟩
        rw [hko] at h9
        cases h9
        refine ⟨_, rfl, by simp [e2], fun j t ht => ?_⟩
        have hjl : j < ts.length := (List.getElem?_eq_some_iff.mp ht).1
        refine ⟨_, hget j hjl, ?_⟩
        have h8 := ab_dok_at c3 j t ht
        rw [Nat.zero_add] at h8
        exact (ab_dv_ok (rv := rv) (sv := sv) (xa := xa) (hkind j (by omega))).2 ks _ t h8
      have hG2 := ab_G_mk (qa := qa) hG hcok (hnc κ c4) hcell
      have p2 : sv <+: sv ++ [(ws.length, qa)] := List.prefix_append sv _
      have hsl : sv.length = hh.2.2.1.length := hG.2.2.1.1
      have hnm : (sv ++ [(ws.length, qa)])[hh.2.2.1.length]? = some (ws.length, qa) := by rw [← hsl]; simp
      have eph := ab_ph_new (ke := sv0.2.2.2.1) (κ := κ) (q := (qa, .inr (ci, (List.range (ee_cx ci).2.2).map (fun j => defaultValue (ee_ty ci j))))) hG.2.2.2.2.1 hD hn29
      dsimp only
      rw [Nat.add_right_comm ce, Nat.add_right_comm sl, ← eph]
      refine k (ks ++ [κ]) _ rv (sv ++ [(ws.length, qa)]) H1 locs ls (.ref qa :: vs) hr0 (ab_px_new hs0 p2 hn29 eph) ⟨hG2.1, hG2.2.1, hG2.2.2.1, fun g9 h9 => ?_, hG2.2.2.2.2.1, hG2.2.2.2.2.2⟩ hP1 hD1 hS1 (ab_lo_mono (List.prefix_refl rv) p2 hl) ⟨?_, ab_a2_mono (fun _ _ => ab_ok_mono (List.prefix_refl rv) p2) hv⟩
      · rcases ab_dfs_in h9 with h9 | ⟨j, hj, rfl⟩
        · exact hG2.2.2.2.1 g9 h9
        · rw [Nat.zero_add]
          refine ⟨(ws.length, qa), .inr (ci, (List.range (ee_cx ci).2.2).map (fun j => defaultValue (ee_ty ci j))), (j : Int), defaultValue (ee_ty ci j), hnm, by simp, rfl, ?_, (ab_dv_ok (hkind j (by omega))).1⟩
          show ((List.range (ee_cx ci).2.2).map (fun j => defaultValue (ee_ty ci j)))[((j : Nat) : Int).toNat]? = _
          rw [Int.toNat_natCast]
          exact hget j hj
      · refine Or.inl ⟨(ws.length, qa), ?_, rfl⟩
        have e3 : Nat.mul 2 hh.2.2.1.length / 2 = hh.2.2.1.length := by
          show (2 * hh.2.2.1.length) / 2 = _
          omega
        show (sv ++ [(ws.length, qa)])[Nat.mul 2 hh.2.2.1.length / 2]? = _
        rw [e3]
        exact hnm
  · cases h
end N1
