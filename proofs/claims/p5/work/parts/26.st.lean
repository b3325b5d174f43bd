/-! ===== length, null ===== -/
def ab_o46 (b n : Nat) : ab_S → Option (List ab_S)
  | (pc, lo, .inr (.inl 0) :: st, h, r) => some [(b, lo, st, h, r)]
  | (pc, lo, .inr (.inl (z + 1)) :: st, h, r) => bif Nat.beq (Nat.mod z (nat_lit 2)) (nat_lit 0) then some [(Nat.add pc n, lo, st, h, r)] else none
  | (pc, lo, .inr (.inr (j + 2)) :: st, h, r) => some [(Nat.add pc n, lo, st, h, r)]
  | _ => none
def ab_o47 (b n : Nat) : ab_S → Option (List ab_S)
  | (pc, lo, .inr (.inl 0) :: st, h, r) => some [(Nat.add pc n, lo, st, h, r)]
  | (pc, lo, .inr (.inl (z + 1)) :: st, h, r) => bif Nat.beq (Nat.mod z (nat_lit 2)) (nat_lit 0) then some [(b, lo, st, h, r)] else none
  | (pc, lo, .inr (.inr (j + 2)) :: st, h, r) => some [(b, lo, st, h, r)]
  | _ => none
section ST
variable {cls : Nat → List ab_Cl} {p : Program} {l : Launch} {e : Env} {R : Room} {s : State} {m : MethodId} {args : Array Value} {below : List Frame} {meth : Method} {c : Code} {Q : State → Prop} {D : va_G} {dA : Nat → ClassId} {xa : List Nat} {xt : ee_X} {B : Nat} {rv0 : List Int} {sv0 : ab_B} {y : Nat}
variable {pc a b n : Nat} {r : List ab_A × List ab_A × ab_H × Nat × Nat} {L : List ab_S}
theorem as_46 (hC : ee_C p s m args meth c D dA xa xt B y) (hs : ee_sc y pc (46, a, b, n) = true) (h : ab_o46 b n (pc, r) = some L) (k : ∀ S ∈ L, ab_WS cls p l e R s m args below meth c Q D dA xa B rv0 sv0 y S) : ab_WS cls p l e R s m args below meth c Q D dA xa B rv0 sv0 y (pc, r) := by
  unfold ab_o46 at h
  split at h
  · rename_i pc' lo st hh r' heq
    cases heq
    cases h
    have k := k _ List.mem_cons_self
    intro ks ws rv sv H locs ls vs hr0 hs0 hG hP hD hS hl hv
    match vs, hv with
    | v :: vs, ⟨hx, hv⟩ =>
      have hx' : v = .null := hx
      subst hx'
      exact sm_46 hC hs (Or.inl rfl) (fun _ => k ks ws rv sv H locs ls vs hr0 hs0 hG hP hD hS hl hv) (fun h9 => absurd rfl h9)
  · rename_i pc' lo z st hh r' heq
    cases heq
    cases hz : Nat.beq (Nat.mod z (nat_lit 2)) (nat_lit 0) with
    | false => rw [ee_cf hz] at h; cases h
    | true =>
      rw [ee_ct hz] at h
      cases h
      have k := k _ List.mem_cons_self
      intro ks ws rv sv H locs ls vs hr0 hs0 hG hP hD hS hl hv
      match vs, hv with
      | v :: vs, ⟨hx, hv⟩ =>
        obtain ⟨q, hq1, rfl⟩ := ab_nnul hz hx
        exact sm_46 hC hs (Or.inr ⟨_, rfl⟩) (fun h9 => by cases h9) (fun _ => k ks ws rv sv H locs ls vs hr0 hs0 hG hP hD hS hl hv)
  · rename_i pc' lo j st hh r' heq
    cases heq
    cases h
    have k := k _ List.mem_cons_self
    intro ks ws rv sv H locs ls vs hr0 hs0 hG hP hD hS hl hv
    match vs, hv with
    | v :: vs, ⟨⟨q, hq1, e9⟩, hv⟩ =>
      subst e9
      exact sm_46 hC hs (Or.inr ⟨_, rfl⟩) (fun h9 => by cases h9) (fun _ => k ks ws rv sv H locs ls vs hr0 hs0 hG hP hD hS hl hv)
  · cases h
theorem as_47 (hC : ee_C p s m args meth c D dA xa xt B y) (hs : ee_sc y pc (47, a, b, n) = true) (h : ab_o47 b n (pc, r) = some L) (k : ∀ S ∈ L, ab_WS cls p l e R s m args below meth c Q D dA xa B rv0 sv0 y S) : ab_WS cls p l e R s m args below meth c Q D dA xa B rv0 sv0 y (pc, r) := by
  unfold ab_o47 at h
  split at h
  · rename_i pc' lo st hh r' heq
    cases heq
    cases h
    have k := k _ List.mem_cons_self
    intro ks ws rv sv H locs ls vs hr0 hs0 hG hP hD hS hl hv
    match vs, hv with
    | v :: vs, ⟨hx, hv⟩ =>
      have hx' : v = .null := hx
      subst hx'
      exact sm_47 hC hs (Or.inl rfl) (fun h9 => absurd rfl h9) (fun _ => k ks ws rv sv H locs ls vs hr0 hs0 hG hP hD hS hl hv)
  · rename_i pc' lo z st hh r' heq
    cases heq
    cases hz : Nat.beq (Nat.mod z (nat_lit 2)) (nat_lit 0) with
    | false => rw [ee_cf hz] at h; cases h
    | true =>
      rw [ee_ct hz] at h
      cases h
      have k := k _ List.mem_cons_self
      intro ks ws rv sv H locs ls vs hr0 hs0 hG hP hD hS hl hv
      match vs, hv with
      | v :: vs, ⟨hx, hv⟩ =>
        obtain ⟨q, hq1, rfl⟩ := ab_nnul hz hx
        exact sm_47 hC hs (Or.inr ⟨_, rfl⟩) (fun _ => k ks ws rv sv H locs ls vs hr0 hs0 hG hP hD hS hl hv) (fun h9 => by cases h9)
  · rename_i pc' lo j st hh r' heq
    cases heq
    cases h
    have k := k _ List.mem_cons_self
    intro ks ws rv sv H locs ls vs hr0 hs0 hG hP hD hS hl hv
    match vs, hv with
    | v :: vs, ⟨⟨q, hq1, e9⟩, hv⟩ =>
      subst e9
      exact sm_47 hC hs (Or.inr ⟨_, rfl⟩) (fun _ => k ks ws rv sv H locs ls vs hr0 hs0 hG hP hD hS hl hv) (fun h9 => by cases h9)
  · cases h
theorem as_34 (hC : ee_C p s m args meth c D dA xa xt B y) (hs : ee_sc y pc (34, a, b, n) = true) (h : ab_o34 n (pc, r) = some L) (k : ∀ S ∈ L, ab_WS cls p l e R s m args below meth c Q D dA xa B rv0 sv0 y S) : ab_WS cls p l e R s m args below meth c Q D dA xa B rv0 sv0 y (pc, r) := by
  unfold ab_o34 at h
  split at h
  · rename_i pc' lo z st hh r' heq
    cases heq
    cases hz : Nat.beq (Nat.mod z (nat_lit 2)) (nat_lit 0) with
    | false => rw [ee_cf hz] at h; cases h
    | true =>
      rw [ee_ct hz, ee_f_eq] at h
      split at h
      · rename_i κ hκ
        split at h
        · rename_i q0 hka
          obtain ⟨t0, mn, mx⟩ := q0
          cases hc : (decide (mx < 2147483648) && Nat.ble t0 (nat_lit 6)) with
          | false => rw [ee_cf hc] at h; cases h
          | true =>
            rw [ee_ct hc] at h
            rw [Bool.and_eq_true, decide_eq_true_eq] at hc
            have ht6 : t0 ≤ 6 := Nat.le_of_ble_eq_true hc.2
            intro ks ws rv sv H locs ls vs hr0 hs0 hG hP hD hS hl hv
            match vs, hv with
            | vr :: vs, ⟨hok, hvt⟩ =>
              obtain ⟨q, hq1, rfl⟩ := ab_nnul hz hok
              rw [ee_nth_eq] at hκ
              obtain ⟨q', e9, hq2, hk1, hk2⟩ := hG.2.2.1.2 _ κ hκ
              have hq3 : sv[z / 2]? = some q' := hq2
              rw [hq1] at hq3
              cases hq3
              obtain ⟨a9, e8, hw8, hcell⟩ := hG.2.2.2.2.1.2 _ κ hk1
              rw [hk2] at hw8
              cases hw8
              obtain ⟨nn, xx, rfl, h5, h6⟩ : ∃ (nn : Nat) (xx : (Nat → Int32) ⊕ ((Nat → Int64) ⊕ ((Nat → UInt32) ⊕ ((Nat → UInt64) ⊕ (Nat → Option Nat))))), e9 = .inl (dA t0, nn, xx) ∧ mn ≤ (nn : Int) ∧ (nn : Int) ≤ mx := by
                rcases hcell.2.1 _ _ _ hka with ⟨ht, nn, ff, rfl, h5, h6, h7⟩ | ⟨rfl, nn, ff, rfl, h5, h6⟩ | ⟨h3, h36, nn, gg, rfl, h5, h6, h7⟩
                · exact ⟨nn, _, rfl, h5, h6⟩
                · exact ⟨nn, _, rfl, h5, h6⟩
                · exact ⟨nn, _, rfl, h5, h6⟩
              have hlt : nn < 2147483648 := by omega
              have e7 : (Int32.ofNat nn).toInt = (nn : Int) := nI_toInt (n := nn) (by omega)
              have hrd : ab_rd (.inl (dA t0, nn, xx)) 2 0 = some (Value.int (Int32.ofNat nn)) := by
                show (if nn < 2147483648 then some (Value.int (Int32.ofNat nn)) else none) = _
                rw [if_pos hlt]
              split at h
              · rename_i w9 hw
                cases h1 : ab_is1 w9 with
                | false => rw [ee_cf h1] at h; cases h
                | true =>
                  rw [ee_ct h1] at h
                  cases h
                  obtain ⟨qf, ef, ii, vf, f1, f2, f3, f4, f5⟩ := hG.2.2.2.1 _ (ab_ff_in hw)
                  have f1' : sv[z / 2]? = some qf := f1
                  rw [hq1] at f1'
                  cases f1'
                  rw [hk2] at f2
                  cases f2
                  have f3' : some (0 : Int) = some ii := f3
                  cases f3'
                  have f4' : ab_rd (.inl (dA t0, nn, xx)) 2 0 = some vf := f4
                  rw [hrd] at f4'
                  cases f4'
                  exact sm_34 hC hs hP ht6 hk2 (k _ List.mem_cons_self ks ws rv sv H locs ls _ hr0 hs0 hG hP hD hS hl ⟨f5, hvt⟩)
              · have htv : ab_tv ks (ws.map (·.1)) (.int (Int32.ofNat nn)) (.inl (mn, mx)) := ⟨_, rfl, by rw [e7]; exact h5, by rw [e7]; exact h6⟩
                obtain ⟨rv', sv', h', a', p1, p2, hG', hok', hL⟩ := ab_val_snd hG h htv
                refine sm_34 hC hs hP ht6 hk2 (k _ (hL _ List.mem_cons_self) ks ws rv' sv' H locs ls _ (hr0.trans p1) (ab_px_sv hs0 p2) (ab_G_adf hG' ?_) hP hD hS (ab_lo_mono p1 p2 hl) ⟨hok', ab_a2_mono (fun _ _ => ab_ok_mono p1 p2) hvt⟩)
                exact ⟨q, _, 0, _, ab_pre p2 hq1, hk2, rfl, hrd, hok'⟩
        · cases h
      · cases h
  · cases h
end ST
