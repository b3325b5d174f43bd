/-! ===== hint: clauses of a cell are checked, its open places closed ===== -/
def ab_np2 (h : ab_H) (cc : ab_Cl) (d : Nat × ab_Key) : Bool := (ab_fps cc).all fun pp => !Nat.beq d.2.1 pp.1 || (bif Nat.beq d.2.1 (nat_lit 0) then !Nat.beq d.2.2.1 pp.2 else bif Nat.beq d.2.1 (nat_lit 1) then (match ab_bd h.1 d.2.2 with
    | some q => decide ((pp.2 : Int) < q.1) || decide (q.2 < (pp.2 : Int))
    | none => false) else false)
/-- the clause holds at the cell that name i says: a guard fails, or its conclusion is known -/
def ab_pv (h : ab_H) (i : Nat) (cc : ab_Cl) : Bool := (cc.1.any fun g => match ab_rf1 h i g.1 with
    | some f => (match ab_bd h.1 f with
      | some q => decide (g.2.2 < q.1) || decide (q.2 < g.2.1)
      | none => false)
    | none => false) || (decide (cc.2.1.1 = 1) && (match ab_rf1 h i cc.2.1.2 with
    | some f => bif decide (cc.2.2.1.1 = 0) then (match ab_bd h.1 f with
        | some q => decide (cc.2.2.2.1 ≤ q.1) && decide (q.2 ≤ cc.2.2.2.2)
        | none => false) else decide (cc.2.2.1.1 = 1) && (match ab_rf1 h i cc.2.2.1.2 with
        | some g => (match ab_dl h f g, ab_dl h g f with
          | some d1, some d2 => decide (cc.2.2.2.1 ≤ d1) && decide (0 - cc.2.2.2.2 ≤ d2)
          | _, _ => false)
        | none => false)
    | none => false))
/-- two words are the same number -/
def ab_wq (h : ab_H) (i : Nat) (a b : ab_R) : Bool := match ab_rf1 h i a, ab_rf1 h i b with
  | some f, some g => ab_feq f g
  | _, _ => false
def ab_pel (h : ab_H) (i : Nat) : List (ab_R × Int × Int) → List (ab_R × Int × Int) → Bool
  | [], [] => true
  | a :: l, b :: m => (ab_wq h i a.1 b.1 && (decide (a.2.1 = b.2.1) && decide (a.2.2 = b.2.2))) && ab_pel h i l m
  | _, _ => false
/-- another clause says the same -/
def ab_pe (h : ab_H) (i : Nat) (c c2 : ab_Cl) : Bool := (ab_pel h i c.1 c2.1 && (decide (c.2.1.1 = c2.2.1.1) && (decide (c.2.2.1.1 = c2.2.2.1.1) && (decide (c.2.2.2.1 = c2.2.2.2.1) && decide (c.2.2.2.2 = c2.2.2.2.2))))) && (ab_wq h i c.2.1.2 c2.2.1.2 && (decide (c.2.2.1.1 = 0) || ab_wq h i c.2.2.1.2 c2.2.2.1.2))
def ab_hck (cls : Nat → List ab_Cl) (i : Nat) : ab_S → Option (List ab_S)
  | (pc, lo, st, h, r) => match ee_nth h.2.2.1 i with
    | some κ => bif (cls κ).all (fun cc => ab_pv h i cc || ((h.2.2.2.2.all fun d => !Nat.beq d.1 i || ab_np2 h cc d) || (cls κ).any (fun c2 => ab_pe h i cc c2 && h.2.2.2.2.all fun d => ab_nop h κ c2 d))) then some [(pc, lo, st, (h.1, h.2.1, h.2.2.1, h.2.2.2.1, h.2.2.2.2.filter (fun d => !Nat.beq d.1 i)), r)] else none
    | none => none
section CK
variable {cls : Nat → List ab_Cl} {p : Program} {l : Launch} {e : Env} {R : Room} {s : State} {m : MethodId} {args : Array Value} {below : List Frame} {meth : Method} {c : Code} {Q : State → Prop} {D : va_G} {dA : Nat → ClassId} {xa : List Nat} {xt : ee_X} {B : Nat} {rv0 : List Int} {sv0 : ab_B} {y : Nat}
theorem ab_np2_snd {rv : List Int} {h : ab_H} (hI : ab_I rv h.1) {cc : ab_Cl} {d : Nat × ab_Key} (hn : ab_np2 h cc d = true) {pp : Nat × Nat} (hpp : pp ∈ ab_fps cc) (q3 : d.2.1 = pp.1) (q4 : ab_ki rv d.2 = some (pp.2 : Int)) : False := by
  unfold ab_np2 at hn
  have h8 := List.all_eq_true.mp hn pp hpp
  rw [Bool.or_eq_true] at h8
  rcases h8 with h8 | h8
  · rw [q3, Nat.beq_refl] at h8
    cases h8
  · obtain ⟨d1, t1, f1⟩ := d
    dsimp only at h8 q3 q4
    match t1, h8, q4 with
    | 0, h8, q4 =>
      have h7 : (!Nat.beq f1.1 pp.2) = true := h8
      have q4' : some (f1.1 : Int) = some (pp.2 : Int) := q4
      have e9 : f1.1 = pp.2 := by
        have := Option.some.inj q4'
        omega
      rw [e9, Nat.beq_refl] at h7
      cases h7
    | 1, h8, q4 =>
      have h7 : (match ab_bd h.1 f1 with
        | some q => decide ((pp.2 : Int) < q.1) || decide (q.2 < (pp.2 : Int))
        | none => false) = true := h8
      have q4' : ab_ev rv f1 = some (pp.2 : Int) := q4
      split at h7
      · rename_i q9 hq9
        have b9 := ab_bd_in hI hq9 q4'
        rw [Bool.or_eq_true, decide_eq_true_eq, decide_eq_true_eq] at h7
        omega
      · cases h7
    | t1 + 2, h8, q4 => cases h8
theorem ab_pv_snd {A : Nat → Prop} {ks : List Nat} {ws : va_W} {rv : List Int} {sv : List (Nat × Nat)} {h : ab_H} (hG : ab_G cls dA xa ks ws rv sv h) (hD : va_D A ws) {i : Nat} {cc : ab_Cl} (hp : ab_pv h i cc = true) {q : Nat × Nat} {ee : va_E} (r1 : sv[i]? = some q) (r2 : ws[q.1]? = some (q.2, ee)) : ab_hd ws ee cc := by
  have reg : ∀ {rr : ab_R} {f : ab_L}, ab_rf1 h i rr = some f → ∃ x, ab_cr ws ee rr = some x ∧ ab_ev rv f = some x := by
    intro rr f hf
    obtain ⟨q7, ee7, x7, s1, s2, s3, s4⟩ := ab_rf1_snd hG hD hf
    rw [r1] at s1
    cases s1
    rw [r2] at s2
    cases s2
    exact ⟨x7, s3, s4⟩
  intro hg
  unfold ab_pv at hp
  rw [Bool.or_eq_true] at hp
  rcases hp with hp | hp
  · exfalso
    obtain ⟨g, hgm, h9⟩ := List.any_eq_true.mp hp
    obtain ⟨x, x1, x2, x3⟩ := hg g hgm
    split at h9
    · rename_i f9 hf9
      split at h9
      · rename_i q9 hq9
        obtain ⟨x7, s3, s4⟩ := reg hf9
        rw [x1] at s3
        cases s3
        have b9 := ab_bd_in hG.1 hq9 s4
        rw [Bool.or_eq_true, decide_eq_true_eq, decide_eq_true_eq] at h9
        omega
      · cases h9
    · cases h9
  · rw [Bool.and_eq_true, decide_eq_true_eq] at hp
    obtain ⟨z3, hp⟩ := hp
    split at hp
    · rename_i f hf
      obtain ⟨x, s3, s4⟩ := reg hf
      by_cases h0 : cc.2.2.1.1 = 0
      · rw [ee_ct (by simpa using h0)] at hp
        split at hp
        · rename_i q9 hq9
          have b9 := ab_bd_in hG.1 hq9 s4
          rw [Bool.and_eq_true, decide_eq_true_eq, decide_eq_true_eq] at hp
          refine ⟨x, 0, s3, Or.inl h0, ?_, ?_⟩
          · rw [z3, h0]; omega
          · rw [z3, h0]; omega
        · cases hp
      · rw [ee_cf (by simpa using h0), Bool.and_eq_true, decide_eq_true_eq] at hp
        obtain ⟨h1, hp⟩ := hp
        split at hp
        · rename_i g hg9
          obtain ⟨u, u3, u4⟩ := reg hg9
          split at hp
          · rename_i d1 d2 hd1 hd2
            have b1 := ab_dl_in hG.1 hG.2.1 s4 u4 hd1
            have b2 := ab_dl_in hG.1 hG.2.1 u4 s4 hd2
            rw [Bool.and_eq_true, decide_eq_true_eq, decide_eq_true_eq] at hp
            refine ⟨x, u, s3, Or.inr u3, ?_, ?_⟩
            · rw [z3, h1]; omega
            · rw [z3, h1]; omega
          · cases hp
        · cases hp
    · cases hp
theorem ab_wq_snd {A : Nat → Prop} {ks : List Nat} {ws : va_W} {rv : List Int} {sv : List (Nat × Nat)} {h : ab_H} (hG : ab_G cls dA xa ks ws rv sv h) (hD : va_D A ws) {i : Nat} {a b : ab_R} {q : Nat × Nat} {ee : va_E} (r1 : sv[i]? = some q) (r2 : ws[q.1]? = some (q.2, ee)) (hw : ab_wq h i a b = true) : ∃ x, ab_cr ws ee a = some x ∧ ab_cr ws ee b = some x := by
  unfold ab_wq at hw
  split at hw
  · rename_i f g hf hg
    obtain ⟨q7, ee7, x7, s1, s2, s3, s4⟩ := ab_rf1_snd hG hD hf
    rw [r1] at s1
    cases s1
    rw [r2] at s2
    cases s2
    obtain ⟨q8, ee8, x8, t1, t2, t3, t4⟩ := ab_rf1_snd hG hD hg
    rw [r1] at t1
    cases t1
    rw [r2] at t2
    cases t2
    have h9 := ab_feq_ev hw t4
    rw [s4] at h9
    cases h9
    exact ⟨x7, s3, t3⟩
  · cases hw
theorem ab_pel_snd {A : Nat → Prop} {ks : List Nat} {ws : va_W} {rv : List Int} {sv : List (Nat × Nat)} {h : ab_H} (hG : ab_G cls dA xa ks ws rv sv h) (hD : va_D A ws) {i : Nat} {q : Nat × Nat} {ee : va_E} (r1 : sv[i]? = some q) (r2 : ws[q.1]? = some (q.2, ee)) : ∀ {l m : List (ab_R × Int × Int)}, ab_pel h i l m = true → (∀ g ∈ l, ∃ x, ab_cr ws ee g.1 = some x ∧ g.2.1 ≤ x ∧ x ≤ g.2.2) → ∀ g ∈ m, ∃ x, ab_cr ws ee g.1 = some x ∧ g.2.1 ≤ x ∧ x ≤ g.2.2
  | [], [], _, _, g, hg => by cases hg
  | [], _ :: _, hp, _, _, _ => by cases hp
  | _ :: _, [], hp, _, _, _ => by cases hp
  | a :: l, b :: m, hp, hl, g, hg => by
    unfold ab_pel at hp
    rw [Bool.and_eq_true, Bool.and_eq_true, Bool.and_eq_true, decide_eq_true_eq, decide_eq_true_eq] at hp
    obtain ⟨⟨h1, h2, h3⟩, h4⟩ := hp
    rcases List.mem_cons.mp hg with rfl | hg
    · obtain ⟨x, x1, x2⟩ := ab_wq_snd hG hD r1 r2 h1
      obtain ⟨x', y1, y2, y3⟩ := hl a List.mem_cons_self
      rw [x1] at y1
      cases y1
      exact ⟨x, x2, by omega, by omega⟩
    · exact ab_pel_snd hG hD r1 r2 h4 (fun g9 h9 => hl g9 (List.mem_cons_of_mem _ h9)) g hg
theorem ab_pe_snd {A : Nat → Prop} {ks : List Nat} {ws : va_W} {rv : List Int} {sv : List (Nat × Nat)} {h : ab_H} (hG : ab_G cls dA xa ks ws rv sv h) (hD : va_D A ws) {i : Nat} {q : Nat × Nat} {ee : va_E} (r1 : sv[i]? = some q) (r2 : ws[q.1]? = some (q.2, ee)) {c c2 : ab_Cl} (hp : ab_pe h i c c2 = true) (h2 : ab_hd ws ee c2) : ab_hd ws ee c := by
  intro hg
  unfold ab_pe at hp
  simp only [Bool.and_eq_true, Bool.or_eq_true, decide_eq_true_eq] at hp
  obtain ⟨⟨p1, p2, p3, p4, p5⟩, p6, p7⟩ := hp
  obtain ⟨x, y, x1, x2, x3, x4⟩ := h2 (ab_pel_snd hG hD r1 r2 p1 hg)
  obtain ⟨x', z1, z2⟩ := ab_wq_snd hG hD r1 r2 p6
  rw [x1] at z2
  cases z2
  rw [p2, p3, p4, p5]
  rcases p7 with p7 | p7
  · exact ⟨x, y, z1, Or.inl (p3 ▸ p7), x3, x4⟩
  · obtain ⟨y', u1, u2⟩ := ab_wq_snd hG hD r1 r2 p7
    rcases x2 with x2 | x2
    · exact ⟨x, y, z1, Or.inl x2, x3, x4⟩
    · rw [x2] at u2
      cases u2
      exact ⟨x, y, z1, Or.inr u1, x3, x4⟩
theorem ab_hck_snd {i : Nat} {S : ab_S} {L : List ab_S} (h : ab_hck cls i S = some L) (k : ∀ S ∈ L, ab_WS cls p l e R s m args below meth c Q D dA xa B rv0 sv0 y S) : ab_WS cls p l e R s m args below meth c Q D dA xa B rv0 sv0 y S := by
  obtain ⟨pc, lo, st, hh, r⟩ := S
  unfold ab_hck at h
  dsimp only at h
  split at h
  · rename_i κ hκ
    cases hz : (cls κ).all (fun cc => ab_pv hh i cc || ((hh.2.2.2.2.all fun d => !Nat.beq d.1 i || ab_np2 hh cc d) || (cls κ).any (fun c2 => ab_pe hh i cc c2 && hh.2.2.2.2.all fun d => ab_nop hh κ c2 d))) with
    | false => rw [ee_cf hz] at h; cases h
    | true =>
      rw [ee_ct hz] at h
      cases h
      intro ks ws rv sv H locs ls vs hr0 hs0 hG hP hD hS hl hv
      rw [ee_nth_eq] at hκ
      obtain ⟨q, ee, w1, w2, w3⟩ := hG.2.2.1.2 _ _ hκ
      refine k _ List.mem_cons_self ks ws rv sv H locs ls vs hr0 hs0 ⟨hG.1, hG.2.1, hG.2.2.1, hG.2.2.2.1, hG.2.2.2.2.1, fun k9 κ9 a9 e9 g1 g2 cc hc hp => ?_⟩ hP hD hS hl hv
      by_cases hkk : k9 = q.1
      · subst hkk
        rw [w2] at g1
        cases g1
        rw [w3] at g2
        cases g2
        have h9 := List.all_eq_true.mp hz cc hc
        rw [Bool.or_eq_true] at h9
        rcases h9 with h9 | h9
        · exact ab_pv_snd hG hD h9 w1 w3
        rw [Bool.or_eq_true] at h9
        rcases h9 with h9 | h9
        rotate_left
        · obtain ⟨c2, hc2, h8⟩ := List.any_eq_true.mp h9
          rw [Bool.and_eq_true] at h8
          exact ab_pe_snd hG hD w1 w3 h8.1 (hG.2.2.2.2.2 q.1 κ q.2 _ w2 w3 c2 hc2 (ab_nop_snd hG w2 h8.2))
        · refine hG.2.2.2.2.2 q.1 κ q.2 _ w2 w3 cc hc (fun pp hpp ho => ?_)
          obtain ⟨d, hd, q8, q1, q2, q3, q4⟩ := ho
          have h8 := List.all_eq_true.mp h9 d hd
          rw [Bool.or_eq_true] at h8
          rcases h8 with h8 | h8
          · exact hp pp hpp ⟨d, List.mem_filter.mpr ⟨hd, h8⟩, q8, q1, q2, q3, q4⟩
          · exact ab_np2_snd hG.1 h8 hpp q3 q4
      · refine hG.2.2.2.2.2 k9 κ9 a9 e9 g1 g2 cc hc (fun pp hpp ho => ?_)
        obtain ⟨d, hd, q8, q1, q2, q3, q4⟩ := ho
        refine hp pp hpp ⟨d, List.mem_filter.mpr ⟨hd, ?_⟩, q8, q1, q2, q3, q4⟩
        cases hb : Nat.beq d.1 i with
        | false => rfl
        | true =>
          exfalso
          have e9 : d.1 = i := Nat.eq_of_beq_eq_true hb
          rw [e9, w1] at q1
          cases q1
          exact hkk q2.symm
  · cases h
end CK
