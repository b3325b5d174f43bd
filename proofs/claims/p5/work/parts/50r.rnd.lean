/-! ===== the static row of the Collector ===== -/
def ab_rnd : List (Nat × Nat) := [(2147483648, 2147483648), (2147483651, 2147483651), (2147483652, 2147483652), (2147483648, 2147483648), (2147483651, 2147483651), (2147483653, 2147483653), (2147483648, 2147483648), (2147483651, 2147483651), (2147483654, 2147483654), (2147483655, 2147483655), (2147483648, 2147483648), (2147483651, 2147483651), (2147483649, 2147483649), (2147483651, 2147483651), (2147483656, 2147483656), (2147483650, 2147483650), (2147483651, 2147483651), (2147483657, 2147483657), (2147483658, 2147483658), (2147483659, 2147483659)]
theorem ab_rnd_in : ∀ i, i < 20 → ∃ q, ab_rnd[i]? = some q ∧ 2147483648 ≤ q.1 ∧ q.2 ≤ 2147483659 := by
  intro i hi
  have h : ∀ i, i < 20 → (match ab_rnd[i]? with
    | some q => decide (2147483648 ≤ q.1) && decide (q.2 ≤ 2147483659)
    | none => false) = true := by decide +kernel
  have h9 := h i hi
  split at h9
  · rename_i q hq
    rw [Bool.and_eq_true, decide_eq_true_eq, decide_eq_true_eq] at h9
    exact ⟨q, hq, h9.1, h9.2⟩
  · cases h9
theorem ab_ein {x : Int32} {q : Nat × Nat} (h : ee_in x q) (h1 : 2147483648 ≤ q.1) (h2 : q.2 ≤ 2147483659) : 0 ≤ x.toInt ∧ x.toInt ≤ 11 := by
  have h3 := ee_zi x
  obtain ⟨h4, h5⟩ := h
  omega
def ab_o34x (n : Nat) : ab_S → Option (List ab_S)
  | (pc, lo, .inr (.inr 3) :: st, r) => some [(Nat.add pc n, lo, .inl (nat_lit 0, 0, 20) :: st, r)]
  | _ => none
def ab_o28x (n : Nat) : ab_S → Option (List ab_S)
  | (pc, lo, .inl f :: .inr (.inr 3) :: st, h, r) => (match ab_bd h.1 f with
    | some q => bif decide (0 ≤ q.1) && decide (q.2 ≤ 19) then ab_fr h 0 11 (fun h' w => some [(Nat.add pc n, lo, .inl w :: st, h', r)]) else none
    | none => none)
  | _ => none
section RD
variable {cls : Nat → List ab_Cl} {p : Program} {l : Launch} {e : Env} {R : Room} {s : State} {m : MethodId} {args : Array Value} {below : List Frame} {meth : Method} {c : Code} {Q : State → Prop} {D : va_G} {dA : Nat → ClassId} {xa : List Nat} {xt : ee_X} {B : Nat} {rv0 : List Int} {sv0 : ab_B} {y : Nat}
variable {pc a b n : Nat} {r : List ab_A × List ab_A × ab_H × Nat × Nat} {L : List ab_S}
theorem as_34x (hxt : xt[1]? = some (some ab_rnd)) (hC : ee_C p s m args meth c D dA xa xt B y) (hs : ee_sc y pc (34, a, b, n) = true) (h : ab_o34x n (pc, r) = some L) (k : ∀ S ∈ L, ab_WS cls p l e R s m args below meth c Q D dA xa B rv0 sv0 y S) : ab_WS cls p l e R s m args below meth c Q D dA xa B rv0 sv0 y (pc, r) := by
  unfold ab_o34x at h
  split at h
  · rename_i pc' lo st r' heq
    cases heq
    cases h
    have k := k _ List.mem_cons_self
    obtain ⟨q, hq, hd, hn, hx, -⟩ := ee_sc_spec hs
    obtain ⟨he, hb, hml, hown, hts, hG, -⟩ := id hC
    cases (show some (Instr.arraylength, 1) = some q from hq)
    cases hn
    obtain ⟨ax, cell, g1, g2, g3, g4, g5, g6, g66, g7⟩ := hG.2.2.2.2.2 1 ab_rnd hxt
    intro ks ws rv sv H locs ls vs hr0 hs0 hG9 hP hD hS hl hv
    match vs, hv with
    | vr :: vs, ⟨⟨a2, ha2, er⟩, hv⟩ =>
      subst er
      have h2 : xa[1]? = some a2 := ha2
      rw [g1] at h2
      cases h2
      have k' := k ks ws rv sv H locs ls (.int (Int32.ofNat 20) :: vs) hr0 hs0 hG9 hP hD hS hl ⟨⟨_, rfl, rfl⟩, hv⟩
      have hCB : B ≤ s.heap.size := hC.2.2.2.2.2.2.1
      exact W.alen (n := Int32.ofNat 20) he hb (by rw [hS.2.1 ax (by omega) (by show ¬ B ≤ ax; omega)]; exact g3) g4 (by rw [g66]; rfl) rfl rfl hd k'
  · cases h
theorem as_28x (hxt : xt[1]? = some (some ab_rnd)) (hC : ee_C p s m args meth c D dA xa xt B y) (hs : ee_sc y pc (28, a, b, n) = true) (h : ab_o28x n (pc, r) = some L) (k : ∀ S ∈ L, ab_WS cls p l e R s m args below meth c Q D dA xa B rv0 sv0 y S) : ab_WS cls p l e R s m args below meth c Q D dA xa B rv0 sv0 y (pc, r) := by
  unfold ab_o28x at h
  split at h
  · rename_i pc' lo f st hh r' heq
    cases heq
    split at h
    · rename_i pq hpq
      cases hz : (decide (0 ≤ pq.1) && decide (pq.2 ≤ 19)) with
      | false => rw [ee_cf hz] at h; cases h
      | true =>
        rw [ee_ct hz] at h
        rw [Bool.and_eq_true, decide_eq_true_eq, decide_eq_true_eq] at hz
        obtain ⟨q, hq, hd, hn, hx, -⟩ := ee_sc_spec hs
        obtain ⟨he, hb, hml, hown, hts, hG, -⟩ := id hC
        cases (show some (Instr.iaload, 1) = some q from hq)
        cases hn
        obtain ⟨ax, cell, g1, g2, g3, g4, g5, g6, g66, g7⟩ := hG.2.2.2.2.2 1 ab_rnd hxt
        intro ks ws rv sv H locs ls vs hr0 hs0 hG9 hP hD hS hl hv
        match vs, hv with
        | vi :: vr :: vs, ⟨⟨iv, ei, hiv⟩, ⟨a2, ha2, er⟩, hv⟩ =>
          subst ei; subst er
          have h2 : xa[1]? = some a2 := ha2
          rw [g1] at h2
          cases h2
          have b9 := ab_bd_in hG9.1 hpq hiv
          obtain ⟨q9, q91, q92, q93⟩ := ab_rnd_in iv.toInt.toNat (by omega)
          obtain ⟨x, hx1, hx2⟩ := g7 _ _ q91
          have hxb : 0 ≤ x.toInt ∧ x.toInt ≤ 11 := ab_ein hx2 q92 q93
          obtain ⟨v1, v2⟩ := ab_vin (x := iv) (nn := 20) (by omega) (by omega)
          obtain ⟨h', w9, rv', p1, hG', hw9, hk9⟩ := ab_gets_fr (k := fun h' w => some [(Nat.add pc 1, lo, (.inl w : ab_A) :: st, h', r')]) hG9 h (x := x.toInt) hxb.1 hxb.2
          cases hk9
          have hCB : B ≤ s.heap.size := hC.2.2.2.2.2.2.1
          have k' := k _ List.mem_cons_self ks ws rv' sv H locs ls (.int x :: vs) (hr0.trans p1) hs0 hG' hP hD hS (ab_lo_mono p1 (List.prefix_refl sv) hl) ⟨⟨x, rfl, hw9⟩, ab_a2_mono (fun _ _ => ab_ok_mono p1 (List.prefix_refl sv)) hv⟩
          have g6' : 20 ≤ cell.slots.size := g6
          exact W.iald (v := .int x) he hb (by rw [hS.2.1 ax (by omega) (by show ¬ B ≤ ax; omega)]; exact g3) g4 g5 (fun z => z.elim (fun z => v1 (Or.inl z)) (fun z => v1 (Or.inr (Nat.le_trans g6' z)))) (by rw [v2]; exact hx1) rfl rfl hd k'
    · cases h
  · cases h
end RD
