/-- an open place isn't one of the clause's at a cell of kind κ -/
def ab_nop (h : ab_H) (κ : Nat) (cc : ab_Cl) (d : Nat × ab_Key) : Bool := (match ee_nth h.2.2.1 d.1 with
  | some κ' => !Nat.beq κ' κ
  | none => false) || ((ab_fps cc).all fun pp => !Nat.beq d.2.1 pp.1 || (bif Nat.beq d.2.1 (nat_lit 0) then !Nat.beq d.2.2.1 pp.2 else bif Nat.beq d.2.1 (nat_lit 1) then (match ab_bd h.1 d.2.2 with
    | some q => decide ((pp.2 : Int) < q.1) || decide (q.2 < (pp.2 : Int))
    | none => false) else false))
def ab_hus (cls : Nat → List ab_Cl) (i j : Nat) : ab_S → Option (List ab_S)
  | (pc, lo, st, h, r) => match ee_nth h.2.2.1 i with
    | some κ => (match ee_nth (cls κ) j with
      | some cc => bif (h.2.2.2.2.all fun d => ab_nop h κ cc d) && ((cc.1.all fun g => match ab_rf1 h i g.1 with
          | some f => (match ab_bd h.1 f with
            | some q => decide (g.2.1 ≤ q.1) && decide (q.2 ≤ g.2.2)
            | none => false)
          | none => false) && decide (cc.2.1.1 = 1)) then (match ab_rf1 h i cc.2.1.2 with
          | some f => bif decide (cc.2.2.1.1 = 0) then some (ab_set h f cc.2.2.2.1 cc.2.2.2.2 (fun h' => [(pc, lo, st, h', r)]) []) else bif decide (cc.2.2.1.1 = 1) then (match ab_rf1 h i cc.2.2.1.2 with
            | some g => some (ab_arl h f g cc.2.2.2.1 (fun h' => [(pc, lo, st, h', r)]))
            | none => none) else none
          | none => none) else none
      | none => none)
    | none => none
section US2
variable {cls : Nat → List ab_Cl} {p : Program} {l : Launch} {e : Env} {R : Room} {s : State} {m : MethodId} {args : Array Value} {below : List Frame} {meth : Method} {c : Code} {Q : State → Prop} {D : va_G} {dA : Nat → ClassId} {xa : List Nat} {xt : ee_X} {B : Nat} {rv0 : List Int} {sv0 : ab_B} {y : Nat}
theorem ab_nop_snd {ks : List Nat} {ws : va_W} {rv : List Int} {sv : List (Nat × Nat)} {h : ab_H} (hG : ab_G cls dA xa ks ws rv sv h) {κ kk : Nat} {cc : ab_Cl} (hκ : ks[kk]? = some κ) (hn : (h.2.2.2.2.all fun d => ab_nop h κ cc d) = true) : ∀ pp ∈ ab_fps cc, ¬ ab_open rv sv h.2.2.2.2 kk pp := by
  rintro pp hpp ⟨d, hd, q, q1, q2, q3, q4⟩
  have h9 := List.all_eq_true.mp hn d hd
  unfold ab_nop at h9
  rw [Bool.or_eq_true] at h9
  rcases h9 with h9 | h9
  · split at h9
    · rename_i κ' hκ'
      rw [ee_nth_eq] at hκ'
      obtain ⟨q8, e8, w1, w2, w3⟩ := hG.2.2.1.2 _ _ hκ'
      rw [q1] at w1
      cases w1
      rw [q2, hκ] at w2
      have e9 : κ = κ' := Option.some.inj w2
      rw [e9, Nat.beq_refl] at h9
      cases h9
    · cases h9
  · have h8 := List.all_eq_true.mp h9 pp hpp
    rw [Bool.or_eq_true] at h8
    rcases h8 with h8 | h8
    · rw [q3, Nat.beq_refl] at h8
      cases h8
    · obtain ⟨d1, t1, f1⟩ := d
      dsimp only at h8 q3 q4
      match t1, h8, q4 with
      | 0, h8, q4 =>
        have h7 : (!Nat.beq f1.1 pp.2) = true := h8
        have q4' : some (f1.1 : Int) = some (pp.2 : Int) := q4
        have e9 : f1.1 = pp.2 := by
          have := Option.some.inj q4'
          omega
        rw [e9, Nat.beq_refl] at h7
        cases h7
      | 1, h8, q4 =>
        have h7 : (match ab_bd h.1 f1 with
          | some q => decide ((pp.2 : Int) < q.1) || decide (q.2 < (pp.2 : Int))
          | none => false) = true := h8
        have q4' : ab_ev rv f1 = some (pp.2 : Int) := q4
        split at h7
        · rename_i q9 hq9
          have b9 := ab_bd_in hG.1 hq9 q4'
          rw [Bool.or_eq_true, decide_eq_true_eq, decide_eq_true_eq] at h7
          omega
        · cases h7
      | t1 + 2, h8, q4 => cases h8
theorem ab_hus_snd {i j : Nat} {S : ab_S} {L : List ab_S} (h : ab_hus cls i j S = some L) (k : ∀ S ∈ L, ab_WS cls p l e R s m args below meth c Q D dA xa B rv0 sv0 y S) : ab_WS cls p l e R s m args below meth c Q D dA xa B rv0 sv0 y S := by
  obtain ⟨pc, lo, st, hh, r⟩ := S
  unfold ab_hus at h
  dsimp only at h
  split at h
  · rename_i κ hκ
    split at h
    · rename_i cc hcc
      cases hz : ((hh.2.2.2.2.all fun d => ab_nop hh κ cc d) && ((cc.1.all fun g => match ab_rf1 hh i g.1 with
          | some f => (match ab_bd hh.1 f with
            | some q => decide (g.2.1 ≤ q.1) && decide (q.2 ≤ g.2.2)
            | none => false)
          | none => false) && decide (cc.2.1.1 = 1))) with
      | false => rw [ee_cf hz] at h; cases h
      | true =>
        rw [ee_ct hz] at h
        rw [Bool.and_eq_true, Bool.and_eq_true, decide_eq_true_eq] at hz
        obtain ⟨z1, z2, z3⟩ := hz
        split at h
        · rename_i f hf
          intro ks ws rv sv H locs ls vs hr0 hs0 hG hP hD hS hl hv
          rw [ee_nth_eq] at hκ hcc
          obtain ⟨q, ee, x, r1, r2, r3, r4⟩ := ab_rf1_snd hG hD hf
          obtain ⟨q8, e8, w1, w2, w3⟩ := hG.2.2.1.2 _ _ hκ
          rw [r1] at w1
          cases w1
          have hhd := hG.2.2.2.2.2 q.1 κ q.2 ee w2 r2 cc (List.mem_of_getElem? hcc) (ab_nop_snd hG w2 z1)
          obtain ⟨x9, y9, c1, c2, c3, c4⟩ := hhd (fun g hg => by
            have h9 := List.all_eq_true.mp z2 g hg
            split at h9
            · rename_i f9 hf9
              split at h9
              · rename_i q9 hq9
                rw [Bool.and_eq_true, decide_eq_true_eq, decide_eq_true_eq] at h9
                obtain ⟨q7, ee7, x7, s1, s2, s3, s4⟩ := ab_rf1_snd hG hD hf9
                rw [r1] at s1
                cases s1
                rw [r2] at s2
                cases s2
                have b9 := ab_bd_in hG.1 hq9 s4
                exact ⟨x7, s3, by omega, by omega⟩
              · cases h9
            · cases h9)
          rw [r3] at c1
          cases c1
          rw [z3] at c3 c4
          by_cases h0 : cc.2.2.1.1 = 0
          · rw [ee_ct (by simpa using h0)] at h
            cases h
            rw [h0] at c3 c4
            obtain ⟨h', g1, e1⟩ := ab_set_snd (k := fun h' => [(pc, lo, st, h', r)]) (imp := ([] : List ab_S)) hG r4 (lo := cc.2.2.2.1) (hi := cc.2.2.2.2) (by omega) (by omega)
            refine k (pc, lo, st, h', r) ?_ ks ws rv sv H locs ls vs hr0 hs0 g1 hP hD hS hl hv
            rw [e1]
            exact List.mem_cons_self
          · rw [ee_cf (by simpa using h0)] at h
            by_cases h1 : cc.2.2.1.1 = 1
            · rw [ee_ct (by simpa using h1)] at h
              split at h
              · rename_i g hg
                cases h
                obtain ⟨q7, ee7, x7, s1, s2, s3, s4⟩ := ab_rf1_snd hG hD hg
                rw [r1] at s1
                cases s1
                rw [r2] at s2
                cases s2
                rcases c2 with c2 | c2
                · exact absurd c2 h0
                · rw [s3] at c2
                  cases c2
                  rw [h1] at c3
                  obtain ⟨h', g1, e1⟩ := ab_arl_snd (k := fun h' => [(pc, lo, st, h', r)]) hG r4 s4 (d := cc.2.2.2.1) (by omega)
                  refine k (pc, lo, st, h', r) ?_ ks ws rv sv H locs ls vs hr0 hs0 g1 hP hD hS hl hv
                  rw [e1]
                  exact List.mem_cons_self
              · cases h
            · rw [ee_cf (by simpa using h1)] at h
              cases h
        · cases h
    · cases h
  · cases h
end US2
