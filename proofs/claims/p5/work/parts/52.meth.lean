/-! ===== ranks, returns, a method ===== -/
abbrev ab_Rk : Type := (Int × ab_L) × (Int × ab_L) × (Int × ab_L)
/-- a part of a rank is bounded -/
def ab_rb1 (h : ab_H) (q : Int × ab_L) : Bool := (decide (q.1 = 1) || decide (q.1 = -1)) && (match ab_bd h.1 q.2 with
  | some p => decide (-8589934592 ≤ p.1) && decide (p.2 ≤ 8589934592)
  | none => false)
def ab_rb (h : ab_H) (r : ab_Rk) : Bool := ab_rb1 h r.1 && (ab_rb1 h r.2.1 && ab_rb1 h r.2.2)
/-- the new part is below the old one by d -/
def ab_rd1 (h : ab_H) (σ : List ab_L) (d : Int) (new old : Int × ab_L) : Bool := decide (new.1 = old.1) && (match ab_sf σ new.2 with
  | some f => bif decide (old.1 = 1) then (match ab_dl h old.2 f with
      | some k => decide (d ≤ k)
      | none => false) else (match ab_dl h f old.2 with
      | some k => decide (d ≤ k)
      | none => false)
  | none => false)
def ab_rlt (h : ab_H) (σ : List ab_L) (new old : ab_Rk) : Bool := ab_rd1 h σ 1 new.1 old.1 || (ab_rd1 h σ 0 new.1 old.1 && (ab_rd1 h σ 1 new.2.1 old.2.1 || (ab_rd1 h σ 0 new.2.1 old.2.1 && ab_rd1 h σ 1 new.2.2 old.2.2)))
/-- a rank as a number -/
def ab_rn1 (rv : List Int) (q : Int × ab_L) : Int := q.1 * (ab_ev rv q.2).getD 0 + 17179869184
def ab_rnk (rv : List Int) (r : ab_Rk) : Nat := (ab_rn1 rv r.1 * 1180591620717411303424 + ab_rn1 rv r.2.1 * 34359738368 + ab_rn1 rv r.2.2).toNat
theorem ab_ev_bd {rv : List Int} {iv : List (Int × Int)} (hI : ab_I rv iv) {f : ab_L} {q : Int × Int} (h : ab_bd iv f = some q) : ∃ x, ab_ev rv f = some x ∧ q.1 ≤ x ∧ x ≤ q.2 := by
  have hx : ∃ x, ab_ev rv f = some x := by
    have h' := h
    unfold ab_bd at h'
    by_cases h0 : f.2.1 = 0
    · exact ⟨_, ab_ev0 h0⟩
    · rw [ee_cf (by simpa using h0)] at h'
      split at h'
      · rename_i w9 hw9
        rw [ee_nth_eq] at hw9
        obtain ⟨z, z1, -⟩ := hI.2 _ _ hw9
        refine ⟨f.2.1 * z + f.2.2, ?_⟩
        unfold ab_ev
        rw [if_neg h0, z1]
        rfl
      · cases h'
  obtain ⟨x, hx⟩ := hx
  have b := ab_bd_in hI h hx
  exact ⟨x, hx, b.1, b.2⟩
theorem ab_rb1_snd {rv : List Int} {h : ab_H} (hI : ab_I rv h.1) {q : Int × ab_L} (hb : ab_rb1 h q = true) : (q.1 = 1 ∨ q.1 = -1) ∧ ∃ x, ab_ev rv q.2 = some x ∧ 8589934592 ≤ ab_rn1 rv q ∧ ab_rn1 rv q ≤ 25769803776 ∧ ab_rn1 rv q = q.1 * x + 17179869184 := by
  unfold ab_rb1 at hb
  rw [Bool.and_eq_true, Bool.or_eq_true, decide_eq_true_eq, decide_eq_true_eq] at hb
  refine ⟨hb.1, ?_⟩
  have h2 := hb.2
  split at h2
  · rename_i p9 hp9
    obtain ⟨x, x1, x2, x3⟩ := ab_ev_bd hI hp9
    rw [Bool.and_eq_true, decide_eq_true_eq, decide_eq_true_eq] at h2
    have e1 : ab_rn1 rv q = q.1 * x + 17179869184 := by
      unfold ab_rn1
      rw [x1]
      rfl
    refine ⟨x, x1, ?_, ?_, e1⟩
    · rw [e1]
      rcases hb.1 with e | e <;> rw [e] <;> omega
    · rw [e1]
      rcases hb.1 with e | e <;> rw [e] <;> omega
  · cases h2
theorem ab_rd1_snd {rv rv' : List Int} {sv sv' : List (Nat × Nat)} {σ : List ab_L} {ρ : List Nat} {h h0 : ab_H} (hI : ab_I rv h.1) (hR : ab_Rl rv h.2.1) (hS : ab_SG rv sv σ ρ rv' sv') {d : Int} {new old : Int × ab_L} (hd : ab_rd1 h σ d new old = true) {x0 x1 : Int} (ho : ab_ev rv old.2 = some x0) (hn : ab_ev rv' new.2 = some x1) (hs : old.1 = 1 ∨ old.1 = -1) : new.1 * x1 + d ≤ old.1 * x0 := by
  unfold ab_rd1 at hd
  rw [Bool.and_eq_true, decide_eq_true_eq] at hd
  obtain ⟨e1, hd⟩ := hd
  split at hd
  · rename_i f hf
    have hf' := ab_sf_rev hS hf hn
    rcases hs with e2 | e2
    · rw [ee_ct (by rw [e2]; rfl)] at hd
      split at hd
      · rename_i k hk
        have d9 := ab_dl_in hI hR ho hf' hk
        rw [decide_eq_true_eq] at hd
        rw [e1, e2]
        omega
      · cases hd
    · rw [ee_cf (by rw [e2]; rfl)] at hd
      split at hd
      · rename_i k hk
        have d9 := ab_dl_in hI hR hf' ho hk
        rw [decide_eq_true_eq] at hd
        rw [e1, e2]
        omega
      · cases hd
  · cases hd
theorem ab_rlt_snd {rv rvo rv' : List Int} {sv sv' : List (Nat × Nat)} {σ : List ab_L} {ρ : List Nat} {h t to : ab_H} (hI : ab_I rv h.1) (hR : ab_Rl rv h.2.1) (hS : ab_SG rv sv σ ρ rv' sv') (hpre : rvo <+: rv) (hIo : ab_I rvo to.1) (hI' : ab_I rv' t.1) {new old : ab_Rk} (hbo : ab_rb to old = true) (hbn : ab_rb t new = true) (hlt : ab_rlt h σ new old = true) : ab_rnk rv' new < ab_rnk rvo old := by
  unfold ab_rb at hbo hbn
  simp only [Bool.and_eq_true] at hbo hbn
  obtain ⟨s1, x1, a1, a2, a3, a4⟩ := ab_rb1_snd hIo hbo.1
  obtain ⟨s2, x2, b1, b2, b3, b4⟩ := ab_rb1_snd hIo hbo.2.1
  obtain ⟨s3, x3, c1, c2, c3, c4⟩ := ab_rb1_snd hIo hbo.2.2
  obtain ⟨t1, y1, d1, d2, d3, d4⟩ := ab_rb1_snd hI' hbn.1
  obtain ⟨t2, y2, e1, e2, e3, e4⟩ := ab_rb1_snd hI' hbn.2.1
  obtain ⟨t3, y3, f1, f2, f3, f4⟩ := ab_rb1_snd hI' hbn.2.2
  have q1 : ∀ d9, ab_rd1 h σ d9 new.1 old.1 = true → ab_rn1 rv' new.1 + d9 ≤ ab_rn1 rvo old.1 := fun d9 hd => by
    have := ab_rd1_snd (h0 := h) hI hR hS hd (ab_ev_mono hpre a1) d1 s1
    rw [a4, d4]
    omega
  have q2 : ∀ d9, ab_rd1 h σ d9 new.2.1 old.2.1 = true → ab_rn1 rv' new.2.1 + d9 ≤ ab_rn1 rvo old.2.1 := fun d9 hd => by
    have := ab_rd1_snd (h0 := h) hI hR hS hd (ab_ev_mono hpre b1) e1 s2
    rw [b4, e4]
    omega
  have q3 : ∀ d9, ab_rd1 h σ d9 new.2.2 old.2.2 = true → ab_rn1 rv' new.2.2 + d9 ≤ ab_rn1 rvo old.2.2 := fun d9 hd => by
    have := ab_rd1_snd (h0 := h) hI hR hS hd (ab_ev_mono hpre c1) f1 s3
    rw [c4, f4]
    omega
  unfold ab_rnk
  unfold ab_rlt at hlt
  rw [Bool.or_eq_true, Bool.and_eq_true, Bool.or_eq_true, Bool.and_eq_true] at hlt
  rcases hlt with h1 | ⟨h1, h2 | ⟨h2, h3⟩⟩
  · have := q1 1 h1
    omega
  · have := q1 0 h1
    have := q2 1 h2
    omega
  · have := q1 0 h1
    have := q2 0 h2
    have := q3 1 h3
    omega
/-! the checks at a return and at a cut -/
def ab_un : List ab_A → List ab_A
  | [] => []
  | _ :: l => .inr (.inr (nat_lit 0)) :: ab_un l
def ab_ra (y op : Nat) (x : ab_X) : Bool := match x.1 with
  | none => Nat.beq op (nat_lit 53) && Nat.beq (ee_rk y) (nat_lit 0)
  | some (.inl f) => Nat.beq op (nat_lit 51) && (Nat.beq (ee_rk y) (nat_lit 1) || (Nat.beq (ee_rk y) (nat_lit 2) && (match ab_bd x.2.1.1 f with
    | some p => decide (0 ≤ p.1) && decide (p.2 ≤ 1)
    | none => false)))
  | some a => (Nat.beq op (nat_lit 52) && (Nat.beq (ee_rk y) (nat_lit 3) && ab_isr a)) || (Nat.beq op (nat_lit 74) && (Nat.beq (ee_rk y) (nat_lit 4) && ab_isl a))
def ab_xt (S : ab_S) (x : ab_X) : ab_S := (S.1, ab_un S.2.1, (match x.1 with
  | none => []
  | some a => [a]), x.2.1, x.2.2.1, x.2.2.2)
def ab_ler (n0 m0 : Nat) (S T : ab_S) : Bool := (fun q : List ab_L × List Nat => ab_le n0 m0 q.1 q.2 S T) (ab_mt n0 m0 S.2.1 S.2.2.1 S.2.2.2.1 T.2.1 T.2.2.1 T.2.2.2.1)
def ab_fr1 (n0 m0 y : Nat) (xs : List ab_X) (S : ab_S) : Bool := match ee_pg y S.1 with
  | some i => Nat.blt S.1 (nat_lit 1100) && xs.any (fun x => ab_ra y i.1 x && ab_ler n0 m0 S (ab_xt S x))
  | none => false
def ab_fc1 (n0 m0 : Nat) (rk : Option ab_Rk) (Ts : List (ab_S × ab_Rk)) (S : ab_S) : Bool := Ts.any fun T => Nat.beq T.1.1 S.1 && (fun q : List ab_L × List Nat => ab_le n0 m0 q.1 q.2 S T.1 && (match rk with
  | none => true
  | some r => ab_rlt S.2.2.2.1 q.1 T.2 r)) (ab_mt n0 m0 S.2.1 S.2.2.1 S.2.2.2.1 T.1.2.1 T.1.2.2.1 T.1.2.2.2.1)
def ab_fin (n0 m0 y : Nat) (xs : List ab_X) (rk : Option ab_Rk) (Ts : List (ab_S × ab_Rk)) (S : ab_S) : Bool := ab_fr1 n0 m0 y xs S || ab_fc1 n0 m0 rk Ts S
section ME
variable {cls : Nat → List ab_Cl} {p : Program} {l : Launch} {e : Env} {R : Room} {s : State} {m : MethodId} {args : Array Value} {below : List Frame} {meth : Method} {c : Code} {D : va_G} {dA : Nat → ClassId} {xa : List Nat} {xt : ee_X} {B : Nat} {y : Nat}
variable {ke : Option Nat} {ks0 : List Nat} {ws0 : va_W} {rv0 : List Int} {sv0 : List (Nat × Nat)} {mask X : Nat} {xs : List ab_X}
/-- what a method owes -/
def ab_Qx (cls : Nat → List ab_Cl) (dA : Nat → ClassId) (xa : List Nat) (ke : Option Nat) (ks0 : List Nat) (ws0 : va_W) (rv0 : List Int) (sv0 : List (Nat × Nat)) (mask X : Nat) (xs : List ab_X) : Option Value → va_W → Nat → Nat → Prop := fun v ws1 k n => ∃ (x : ab_X) (ks1 : List Nat) (rv1 : List Int) (sv1 : List (Nat × Nat)), x ∈ xs ∧ rv0 <+: rv1 ∧ ab_px (sv0, (ks0, ws0), ab_wm mask, ke, X, ab_ph ke ks0 ws0) ks1 ws1 sv1 ∧ ab_G cls dA xa ks1 ws1 rv1 sv1 x.2.1 ∧ ab_an rv1 sv1 xa v x.1 ∧ k = x.2.2.1 + (ab_ph ke ks1 ws1 / 1024 - ab_ph ke ks0 ws0 / 1024) ∧ n = x.2.2.2 + (ab_ph ke ks1 ws1 - ab_ph ke ks0 ws0)
theorem ab_ret_snd (hy1 : 1 ≤ y) (hC : ee_C p s m args meth c D dA xa xt B y) (hyM : y < ee_nM) {S : ab_S} (h : ab_fr1 rv0.length sv0.length y xs S = true) {rvp : List Int} {svp : List (Nat × Nat)} (hrp : rv0 <+: rvp) (hsp : sv0 <+: svp) :
    ab_WS cls p l e R s m args below meth c (mq below (ct_Post D B (ab_Qx cls dA xa ke ks0 ws0 rv0 sv0 mask X xs)) args s (fun q => B ≤ q)) D dA xa B rvp (svp, (ks0, ws0), ab_wm mask, ke, X, ab_ph ke ks0 ws0) y S := by
  unfold ab_fr1 at h
  split at h
  · rename_i i hi
    obtain ⟨op, a, b, n⟩ := i
    rw [Bool.and_eq_true] at h
    have hlt : S.1 < 1100 := Nat.le_of_ble_eq_true h.1
    have hsc := ee_sc_all hyM hlt hi
    obtain ⟨x, hx, h2⟩ := List.any_eq_true.mp h.2
    rw [Bool.and_eq_true] at h2
    obtain ⟨hra, hle⟩ := h2
    unfold ab_ler at hle
    generalize ab_mt rv0.length sv0.length S.2.1 S.2.2.1 S.2.2.2.1 (ab_xt S x).2.1 (ab_xt S x).2.2.1 (ab_xt S x).2.2.2.1 = q at hle
    obtain ⟨σ, ρ⟩ := q
    dsimp only at hle hra
    intro ks ws rv sv H locs ls vs hr0 hs0 hG hP hD hS hl hv
    obtain ⟨rv', sv', -, g1, g2, g3, g4, g5, g6, g7, g8⟩ := ab_le_fit hle hG hl hv
    have hpx : ab_px (sv0, (ks0, ws0), ab_wm mask, ke, X, ab_ph ke ks0 ws0) ks ws sv' := ⟨g5 sv0 rfl (hsp.trans hs0.1), hs0.2⟩
    have hpr := g4 rv0 rfl (hrp.trans hr0)
    refine W.widen (Nat.add_le_add_right g7 _) (Nat.add_le_add_right g8 _) ?_
    have g3' : ab_a2 (ab_ok rv' sv' xa) vs (match x.1 with
      | none => []
      | some a => [a]) := g3
    have mkq : ∀ v, ab_an rv' sv' xa v x.1 → ab_Qx cls dA xa ke ks0 ws0 rv0 sv0 mask X xs v ws (x.2.2.1 + (ab_ph ke ks ws / 1024 - ab_ph ke ks0 ws0 / 1024)) (x.2.2.2 + (ab_ph ke ks ws - ab_ph ke ks0 ws0)) := fun v han => ⟨x, ks, rv', sv', hx, hpr, hpx, g1, han, rfl, rfl⟩
    unfold ab_ra at hra
    cases hx1 : x.1 with
    | none =>
      rw [hx1] at hra g3' mkq
      dsimp only at hra
      rw [Bool.and_eq_true] at hra
      have e1 : op = 53 := Nat.eq_of_beq_eq_true hra.1
      subst e1
      match vs, g3' with
      | [], _ => exact sm_53 hy1 hC hsc (Nat.eq_of_beq_eq_true hra.2) hP hD hS (mkq none trivial)
    | some av =>
      rw [hx1] at hra g3' mkq
      match vs, g3' with
      | [v], ⟨hok, _⟩ =>
        match av, hra, hok, mkq with
        | .inl f, hra, hok, mkq =>
          dsimp only at hra
          rw [Bool.and_eq_true, Bool.or_eq_true, Bool.and_eq_true] at hra
          have e1 : op = 51 := Nat.eq_of_beq_eq_true hra.1
          subst e1
          obtain ⟨xv, rfl, hxv⟩ := id hok
          refine sm_51 hy1 hC hsc ?_ hP hD hS (mkq _ hok)
          rcases hra.2 with h9 | ⟨h9, h8⟩
          · exact Or.inl (Nat.eq_of_beq_eq_true h9)
          · refine Or.inr ⟨Nat.eq_of_beq_eq_true h9, ?_⟩
            split at h8
            · rename_i p9 hp9
              have b9 := ab_bd_in g1.1 hp9 hxv
              rw [Bool.and_eq_true, decide_eq_true_eq, decide_eq_true_eq] at h8
              rcases (show xv.toInt = 0 ∨ xv.toInt = 1 by omega) with h7 | h7
              · exact Or.inl (Int32.toInt_inj.mp h7)
              · exact Or.inr (Int32.toInt_inj.mp h7)
            · cases h8
        | .inr w9, hra, hok, mkq =>
          dsimp only at hra
          rw [Bool.or_eq_true, Bool.and_eq_true, Bool.and_eq_true, Bool.and_eq_true, Bool.and_eq_true] at hra
          rcases hra with ⟨h9, h8, h7⟩ | ⟨h9, h8, h7⟩
          · have e1 : op = 52 := Nat.eq_of_beq_eq_true h9
            subst e1
            exact sm_52 hy1 hC hsc (ab_ok_ref h7 hok) (Nat.eq_of_beq_eq_true h8) hP hD hS (mkq _ hok)
          · have e1 : op = 74 := Nat.eq_of_beq_eq_true h9
            subst e1
            match w9, h7, hok, mkq with
            | .inr 1, _, hok, mkq =>
              obtain ⟨xl, rfl⟩ := id hok
              exact sm_74 hy1 hC hsc (Nat.eq_of_beq_eq_true h8) hP hD hS (mkq _ hok)
  · cases h
end ME
