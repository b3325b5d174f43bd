/-! ===== what a comparison tells of names ===== -/
/-- a form lies between two numbers from now on; imp: it can't -/
def ab_set {β : Type} (h : ab_H) (f : ab_L) (lo hi : Int) (k : ab_H → β) (imp : β) : β := bif decide (f.2.1 = 0) then (bif decide (lo ≤ f.2.2) && decide (f.2.2 ≤ hi) then k h else imp)
  else bif decide (0 < f.2.1) then (match ee_nth h.1 f.1 with
    | some q => ab_g (ab_max q.1 (0 - (f.2.2 - lo) / f.2.1)) fun l => ab_g (ab_min q.2 ((hi - f.2.2) / f.2.1)) fun u => bif decide (l ≤ u) then (match ee_upd h.1 f.1 (l, u) with
      | some iv => k (iv, h.2)
      | none => k h) else imp
    | none => k h)
  else k h
/-- form a is at least form b plus d -/
def ab_arl {β : Type} (h : ab_H) (a b : ab_L) (d : Int) (k : ab_H → β) : β := bif decide (0 < a.2.1) && (decide (a.2.1 = b.2.1) && !Nat.beq a.1 b.1) then ab_g (0 - (a.2.2 - b.2.2 - d) / a.2.1) fun r => k (h.1, (a.1, b.1, r) :: h.2.1, h.2.2) else k h
def ab_lt {β : Type} (h : ab_H) (f g : ab_L) (k : ab_H → β) (imp : β) : β := match ab_bd h.1 f, ab_bd h.1 g, ab_dl h f g with
  | some p, some q, some d => bif decide (0 ≤ d) then imp else ab_set h f p.1 (q.2 - 1) (fun h1 => ab_set h1 g (p.1 + 1) q.2 (fun h2 => ab_arl h2 g f 1 k) imp) imp
  | _, _, _ => k h
def ab_ge {β : Type} (h : ab_H) (f g : ab_L) (k : ab_H → β) (imp : β) : β := match ab_bd h.1 f, ab_bd h.1 g, ab_dl h g f with
  | some p, some q, some d => bif decide (1 ≤ d) then imp else ab_set h f q.1 p.2 (fun h1 => ab_set h1 g q.1 p.2 (fun h2 => ab_arl h2 f g 0 k) imp) imp
  | _, _, _ => k h
def ab_eqq {β : Type} (h : ab_H) (f g : ab_L) (k : ab_H → β) (imp : β) : β := match ab_bd h.1 f, ab_bd h.1 g with
  | some p, some q => ab_set h f q.1 q.2 (fun h1 => ab_set h1 g p.1 p.2 (fun h2 => ab_arl h2 f g 0 (fun h3 => ab_arl h3 g f 0 k)) imp) imp
  | _, _ => k h
def ab_nee {β : Type} (h : ab_H) (f g : ab_L) (k : ab_H → β) (imp : β) : β := match ab_bd h.1 f, ab_bd h.1 g with
  | some p, some q =>
    let k1 := fun h1 => (match ab_dl h f g, ab_dl h g f with
      | some d, some d2 => bif decide (d = 0) then ab_arl h1 f g 1 k else bif decide (d2 = 0) then ab_arl h1 g f 1 k else k h1
      | _, _ => k h1)
    bif decide (q.1 = q.2) then (bif decide (p.1 = q.1) then ab_set h f (p.1 + 1) p.2 k1 imp else bif decide (p.2 = q.1) then ab_set h f p.1 (p.2 - 1) k1 imp else k1 h)
    else bif decide (p.1 = p.2) then (bif decide (q.1 = p.1) then ab_set h g (q.1 + 1) q.2 k1 imp else bif decide (q.2 = p.1) then ab_set h g q.1 (q.2 - 1) k1 imp else k1 h)
    else k1 h
  | _, _ => k h
section CM
variable {cls : Nat → List ab_Cl} {dA : Nat → ClassId} {xa : List Nat} {ks : List Nat} {ws : va_W} {rv : List Int} {sv : List (Nat × Nat)} {h : ab_H} {f g : ab_L} {β : Type} {k : ab_H → β} {imp : β} {xx yy : Int}
theorem ab_iv_set (hG : ab_G cls dA xa ks ws rv sv h) {i : Nat} {ll uu zz : Int} {iv : List (Int × Int)} (hz : rv[i]? = some zz) (h1 : ll ≤ zz) (h2 : zz ≤ uu) (hu : ee_upd h.1 i (ll, uu) = some iv) : ab_G cls dA xa ks ws rv sv (iv, h.2) := by
  obtain ⟨⟨i1, i2⟩, g2, g3, g4, g5, g6⟩ := hG
  obtain ⟨u1, rfl⟩ := ee_upd_eq hu
  refine ⟨⟨by rw [List.length_set]; exact i1, fun j q hq => ?_⟩, g2, g3, g4, g5, g6⟩
  by_cases hj : j = i
  · subst hj
    rw [List.getElem?_set_self u1] at hq
    cases hq
    exact ⟨zz, hz, h1, h2⟩
  · rw [List.getElem?_set_ne (fun z9 => hj z9.symm)] at hq
    exact i2 j q hq
theorem ab_set_snd (hG : ab_G cls dA xa ks ws rv sv h) (hx : ab_ev rv f = some xx) {lo hi : Int} (h1 : lo ≤ xx) (h2 : xx ≤ hi) : ∃ h', ab_G cls dA xa ks ws rv sv h' ∧ ab_set h f lo hi k imp = k h' := by
  unfold ab_set
  by_cases h0 : f.2.1 = 0
  · rw [ee_ct (by simpa using h0)]
    rw [ab_ev0 h0] at hx
    have hx' := Option.some.inj hx
    refine ⟨h, hG, ?_⟩
    rw [ee_ct]
    rw [Bool.and_eq_true, decide_eq_true_eq, decide_eq_true_eq]
    omega
  · rw [ee_cf (by simpa using h0)]
    by_cases hp : 0 < f.2.1
    · rw [ee_ct (by simpa using hp)]
      obtain ⟨zz, z1, z2⟩ := ab_ev1 h0 hx
      cases hq : ee_nth h.1 f.1 with
      | none => exact ⟨h, hG, rfl⟩
      | some q =>
        dsimp only
        simp only [ab_g_eq]
        have hq' := hq
        rw [ee_nth_eq] at hq'
        obtain ⟨w9, w1, w2, w3⟩ := hG.1.2 _ _ hq'
        rw [z1] at w1
        cases w1
        have e1 : zz ≤ (hi - f.2.2) / f.2.1 := Int.le_ediv_of_mul_le hp (by rw [Int.mul_comm]; omega)
        have e2 : 0 - zz ≤ (f.2.2 - lo) / f.2.1 := Int.le_ediv_of_mul_le hp (by rw [Int.mul_comm, Int.mul_sub]; omega)
        have l1 : ab_max q.1 (0 - (f.2.2 - lo) / f.2.1) ≤ zz := ab_max_le w2 (by omega)
        have l2 : zz ≤ ab_min q.2 ((hi - f.2.2) / f.2.1) := ab_le_min w3 e1
        generalize ab_max q.1 (0 - (f.2.2 - lo) / f.2.1) = ll at l1
        generalize ab_min q.2 ((hi - f.2.2) / f.2.1) = uu at l2
        rw [ee_ct (by rw [decide_eq_true_eq]; omega)]
        cases hu : ee_upd h.1 f.1 (ll, uu) with
        | none => exact ⟨h, hG, rfl⟩
        | some iv => exact ⟨_, ab_iv_set hG z1 l1 l2 hu, rfl⟩
    · rw [ee_cf (by simpa using hp)]
      exact ⟨h, hG, rfl⟩
theorem ab_arl_snd (hG : ab_G cls dA xa ks ws rv sv h) (hx : ab_ev rv f = some xx) (hy : ab_ev rv g = some yy) {d : Int} (hd : yy + d ≤ xx) : ∃ h', ab_G cls dA xa ks ws rv sv h' ∧ ab_arl h f g d k = k h' := by
  unfold ab_arl
  cases hc : (decide (0 < f.2.1) && (decide (f.2.1 = g.2.1) && !Nat.beq f.1 g.1)) with
  | false => rw [ee_cf rfl]; exact ⟨h, hG, rfl⟩
  | true =>
    rw [ee_ct rfl, ab_g_eq]
    rw [Bool.and_eq_true, Bool.and_eq_true, decide_eq_true_eq, decide_eq_true_eq] at hc
    obtain ⟨zz, z1, z2⟩ := ab_ev1 (by omega) hx
    obtain ⟨ww, w1, w2⟩ := ab_ev1 (by omega) hy
    refine ⟨_, ab_rel_G hG z1 w1 ?_, rfl⟩
    have e1 : ww - zz ≤ (f.2.2 - g.2.2 - d) / f.2.1 := by
      refine Int.le_ediv_of_mul_le hc.1 ?_
      rw [Int.mul_comm, Int.mul_sub]
      rw [← hc.2.1] at w2
      omega
    omega
theorem ab_lt_snd (hG : ab_G cls dA xa ks ws rv sv h) (hx : ab_ev rv f = some xx) (hy : ab_ev rv g = some yy) (hlt : xx < yy) : ∃ h', ab_G cls dA xa ks ws rv sv h' ∧ ab_lt h f g k imp = k h' := by
  unfold ab_lt
  split
  · rename_i p q d hp hq hd
    have bp := ab_bd_in hG.1 hp hx
    have bq := ab_bd_in hG.1 hq hy
    have bd := ab_dl_in hG.1 hG.2.1 hx hy hd
    rw [ee_cf (by rw [decide_eq_false_iff_not]; omega)]
    obtain ⟨h1, g1, e1⟩ := ab_set_snd (k := fun h1 => ab_set h1 g (p.1 + 1) q.2 (fun h2 => ab_arl h2 g f 1 k) imp) (imp := imp) hG hx (lo := p.1) (hi := q.2 - 1) bp.1 (by omega)
    rw [e1]
    obtain ⟨h2, g2, e2⟩ := ab_set_snd (k := fun h2 => ab_arl h2 g f 1 k) (imp := imp) g1 hy (lo := p.1 + 1) (hi := q.2) (by omega) bq.2
    try dsimp only
    rw [e2]
    exact ab_arl_snd g2 hy hx (by omega)
  · exact ⟨h, hG, rfl⟩
theorem ab_ge_snd (hG : ab_G cls dA xa ks ws rv sv h) (hx : ab_ev rv f = some xx) (hy : ab_ev rv g = some yy) (hlt : yy ≤ xx) : ∃ h', ab_G cls dA xa ks ws rv sv h' ∧ ab_ge h f g k imp = k h' := by
  unfold ab_ge
  split
  · rename_i p q d hp hq hd
    have bp := ab_bd_in hG.1 hp hx
    have bq := ab_bd_in hG.1 hq hy
    have bd := ab_dl_in hG.1 hG.2.1 hy hx hd
    rw [ee_cf (by rw [decide_eq_false_iff_not]; omega)]
    obtain ⟨h1, g1, e1⟩ := ab_set_snd (k := fun h1 => ab_set h1 g q.1 p.2 (fun h2 => ab_arl h2 f g 0 k) imp) (imp := imp) hG hx (lo := q.1) (hi := p.2) (by omega) bp.2
    rw [e1]
    obtain ⟨h2, g2, e2⟩ := ab_set_snd (k := fun h2 => ab_arl h2 f g 0 k) (imp := imp) g1 hy (lo := q.1) (hi := p.2) bq.1 (by omega)
    try dsimp only
    rw [e2]
    exact ab_arl_snd g2 hx hy (by omega)
  · exact ⟨h, hG, rfl⟩
theorem ab_eqq_snd (hG : ab_G cls dA xa ks ws rv sv h) (hx : ab_ev rv f = some xx) (hy : ab_ev rv g = some xx) : ∃ h', ab_G cls dA xa ks ws rv sv h' ∧ ab_eqq h f g k imp = k h' := by
  unfold ab_eqq
  split
  · rename_i p q hp hq
    have bp := ab_bd_in hG.1 hp hx
    have bq := ab_bd_in hG.1 hq hy
    obtain ⟨h1, g1, e1⟩ := ab_set_snd (k := fun h1 => ab_set h1 g p.1 p.2 (fun h2 => ab_arl h2 f g 0 (fun h3 => ab_arl h3 g f 0 k)) imp) (imp := imp) hG hx (lo := q.1) (hi := q.2) bq.1 bq.2
    rw [e1]
    obtain ⟨h2, g2, e2⟩ := ab_set_snd (k := fun h2 => ab_arl h2 f g 0 (fun h3 => ab_arl h3 g f 0 k)) (imp := imp) g1 hy (lo := p.1) (hi := p.2) bp.1 bp.2
    try dsimp only
    rw [e2]
    obtain ⟨h3, g3, e3⟩ := ab_arl_snd (k := fun h3 => ab_arl h3 g f 0 k) g2 hx hy (d := 0) (by omega)
    try dsimp only
    rw [e3]
    exact ab_arl_snd g3 hy hx (by omega)
  · exact ⟨h, hG, rfl⟩
end CM
section CM2
variable {cls : Nat → List ab_Cl} {dA : Nat → ClassId} {xa : List Nat} {ks : List Nat} {ws : va_W} {rv : List Int} {sv : List (Nat × Nat)} {h : ab_H} {f g : ab_L} {β : Type} {k : ab_H → β} {imp : β} {xx yy : Int}
theorem ab_nee_snd (hG : ab_G cls dA xa ks ws rv sv h) (hx : ab_ev rv f = some xx) (hy : ab_ev rv g = some yy) (hne : xx ≠ yy) : ∃ h', ab_G cls dA xa ks ws rv sv h' ∧ ab_nee h f g k imp = k h' := by
  unfold ab_nee
  split
  · rename_i p q hp hq
    have bp := ab_bd_in hG.1 hp hx
    have bq := ab_bd_in hG.1 hq hy
    obtain ⟨k1, hk1⟩ : ∃ k1 : ab_H → β, k1 = fun h1 => (match ab_dl h f g, ab_dl h g f with
      | some d, some d2 => bif decide (d = 0) then ab_arl h1 f g 1 k else bif decide (d2 = 0) then ab_arl h1 g f 1 k else k h1
      | _, _ => k h1) := ⟨_, rfl⟩
    dsimp only
    rw [← hk1]
    have fin : ∀ h1, ab_G cls dA xa ks ws rv sv h1 → ∃ h', ab_G cls dA xa ks ws rv sv h' ∧ k1 h1 = k h' := by
      intro h1 g1
      rw [hk1]
      dsimp only
      split
      · rename_i d d2 hd hd2
        have b1 := ab_dl_in hG.1 hG.2.1 hx hy hd
        have b2 := ab_dl_in hG.1 hG.2.1 hy hx hd2
        by_cases c1 : d = 0
        · rw [ee_ct (by simpa using c1)]
          exact ab_arl_snd g1 hx hy (by omega)
        · rw [ee_cf (by simpa using c1)]
          by_cases c2 : d2 = 0
          · rw [ee_ct (by simpa using c2)]
            exact ab_arl_snd g1 hy hx (by omega)
          · rw [ee_cf (by simpa using c2)]
            exact ⟨h1, g1, rfl⟩
      · exact ⟨h1, g1, rfl⟩
    have fset : ∀ (f9 : ab_L) (v9 lo hi : Int), ab_ev rv f9 = some v9 → lo ≤ v9 → v9 ≤ hi → ∃ h', ab_G cls dA xa ks ws rv sv h' ∧ ab_set h f9 lo hi k1 imp = k h' := by
      intro f9 v9 lo hi e9 l9 u9
      obtain ⟨h1, g1, e1⟩ := ab_set_snd (k := k1) (imp := imp) hG e9 l9 u9
      rw [e1]
      exact fin h1 g1
    by_cases c1 : q.1 = q.2
    · rw [ee_ct (by simpa using c1)]
      by_cases c2 : p.1 = q.1
      · rw [ee_ct (by simpa using c2)]
        exact fset f xx _ _ hx (by omega) bp.2
      · rw [ee_cf (by simpa using c2)]
        by_cases c3 : p.2 = q.1
        · rw [ee_ct (by simpa using c3)]
          exact fset f xx _ _ hx bp.1 (by omega)
        · rw [ee_cf (by simpa using c3)]
          have h9 := fin h hG
          rw [hk1] at h9
          exact h9
    · rw [ee_cf (by simpa using c1)]
      by_cases c4 : p.1 = p.2
      · rw [ee_ct (by simpa using c4)]
        by_cases c2 : q.1 = p.1
        · rw [ee_ct (by simpa using c2)]
          exact fset g yy _ _ hy (by omega) bq.2
        · rw [ee_cf (by simpa using c2)]
          by_cases c3 : q.2 = p.1
          · rw [ee_ct (by simpa using c3)]
            exact fset g yy _ _ hy bq.1 (by omega)
          · rw [ee_cf (by simpa using c3)]
            have h9 := fin h hG
            rw [hk1] at h9
            exact h9
      · rw [ee_cf (by simpa using c4)]
        have h9 := fin h hG
        rw [hk1] at h9
        exact h9
  · exact ⟨h, hG, rfl⟩
end CM2
def ab_asm {β : Type} (c : Nat) (h : ab_H) (f g : ab_L) (k : ab_H → β) (imp : β) : β := match c with
  | 0 => ab_eqq h f g k imp
  | 1 => ab_nee h f g k imp
  | 2 => ab_lt h f g k imp
  | 3 => ab_ge h f g k imp
  | 4 => ab_lt h g f k imp
  | _ => ab_ge h g f k imp
def ab_neg (c : Nat) : Nat := match c with
  | 0 => 1
  | 1 => 0
  | 2 => 3
  | 3 => 2
  | 4 => 5
  | _ => 4
theorem ab_neg_ch {c : Nat} {x y : Int32} (h : ¬ ee_ch c x y) : ee_ch (ab_neg c) x y := by
  match c, h with
  | 0, h => exact h
  | 1, h => exact Classical.not_not.mp h
  | 2, h => exact h
  | 3, h => exact Classical.not_not.mp h
  | 4, h => exact h
  | c + 5, h => exact Classical.not_not.mp h
theorem ab_asm_snd {cls : Nat → List ab_Cl} {dA : Nat → ClassId} {xa : List Nat} {ks : List Nat} {ws : va_W} {rv : List Int} {sv : List (Nat × Nat)} {h : ab_H} {f g : ab_L} {β : Type} {k : ab_H → β} {imp : β} {c : Nat} {x y : Int32} (hG : ab_G cls dA xa ks ws rv sv h) (hx : ab_ev rv f = some x.toInt) (hy : ab_ev rv g = some y.toInt) (hc : ee_ch c x y) : ∃ h', ab_G cls dA xa ks ws rv sv h' ∧ ab_asm c h f g k imp = k h' := by
  match c, hc with
  | 0, hc =>
    have e9 : x = y := hc
    subst e9
    exact ab_eqq_snd hG hx hy
  | 1, hc => exact ab_nee_snd hG hx hy (fun z9 => hc (Int32.toInt_inj.mp z9))
  | 2, hc => exact ab_lt_snd hG hx hy (Int32.lt_iff_toInt_lt.mp hc)
  | 3, hc => exact ab_ge_snd hG hx hy (by have h9 : ¬ x < y := hc; rw [Int32.lt_iff_toInt_lt] at h9; omega)
  | 4, hc => exact ab_lt_snd hG hy hx (Int32.lt_iff_toInt_lt.mp hc)
  | c + 5, hc => exact ab_ge_snd hG hy hx (by have h9 : ¬ y < x := hc; rw [Int32.lt_iff_toInt_lt] at h9; omega)
def ab_o44 (c tgt n : Nat) : ab_S → Option (List ab_S)
  | (pc, lo, .inl g :: .inl f :: st, h, r) => some (ab_asm c h f g (fun h' => [(tgt, lo, st, h', r)]) [] ++ ab_asm (ab_neg c) h f g (fun h' => [(Nat.add pc n, lo, st, h', r)]) [])
  | _ => none
def ab_o45 (c tgt n : Nat) : ab_S → Option (List ab_S)
  | (pc, lo, .inl f :: st, h, r) => some (ab_asm c h f (nat_lit 0, 0, 0) (fun h' => [(tgt, lo, st, h', r)]) [] ++ ab_asm (ab_neg c) h f (nat_lit 0, 0, 0) (fun h' => [(Nat.add pc n, lo, st, h', r)]) [])
  | _ => none
section AS2
variable {cls : Nat → List ab_Cl} {p : Program} {l : Launch} {e : Env} {R : Room} {s : State} {m : MethodId} {args : Array Value} {below : List Frame} {meth : Method} {c : Code} {Q : State → Prop} {D : va_G} {dA : Nat → ClassId} {xa : List Nat} {xt : ee_X} {B : Nat} {rv0 : List Int} {sv0 : ab_B} {y : Nat}
variable {pc a b n : Nat} {r : List ab_A × List ab_A × ab_H × Nat × Nat} {L : List ab_S}
theorem as_44 (hC : ee_C p s m args meth c D dA xa xt B y) (hs : ee_sc y pc (44, a, b, n) = true) (h : ab_o44 a b n (pc, r) = some L) (k : ∀ S ∈ L, ab_WS cls p l e R s m args below meth c Q D dA xa B rv0 sv0 y S) : ab_WS cls p l e R s m args below meth c Q D dA xa B rv0 sv0 y (pc, r) := by
  unfold ab_o44 at h
  split at h
  · rename_i pc' lo g f st hh r' heq
    cases heq
    cases h
    intro ks ws rv sv H locs ls vs hr0 hs0 hG hP hD hS hl hv
    match vs, hv with
    | v1 :: v2 :: vs, ⟨⟨yv, e1, hy1⟩, ⟨xv, e2, hx1⟩, hv⟩ =>
      subst e1; subst e2
      refine sm_44 hC hs (fun hc => ?_) (fun hc => ?_)
      · obtain ⟨h', g1, g2⟩ := ab_asm_snd (k := fun h' => [(b, lo, st, h', r')]) (imp := ([] : List ab_S)) hG hx1 hy1 hc
        refine k (b, lo, st, h', r') ?_ ks ws rv sv H locs ls vs hr0 hs0 g1 hP hD hS hl hv
        rw [g2]
        exact List.mem_append_left _ List.mem_cons_self
      · obtain ⟨h', g1, g2⟩ := ab_asm_snd (k := fun h' => [(Nat.add pc n, lo, st, h', r')]) (imp := ([] : List ab_S)) hG hx1 hy1 (ab_neg_ch hc)
        refine k (Nat.add pc n, lo, st, h', r') ?_ ks ws rv sv H locs ls vs hr0 hs0 g1 hP hD hS hl hv
        rw [g2]
        exact List.mem_append_right _ List.mem_cons_self
  · cases h
theorem as_45 (hC : ee_C p s m args meth c D dA xa xt B y) (hs : ee_sc y pc (45, a, b, n) = true) (h : ab_o45 a b n (pc, r) = some L) (k : ∀ S ∈ L, ab_WS cls p l e R s m args below meth c Q D dA xa B rv0 sv0 y S) : ab_WS cls p l e R s m args below meth c Q D dA xa B rv0 sv0 y (pc, r) := by
  unfold ab_o45 at h
  split at h
  · rename_i pc' lo f st hh r' heq
    cases heq
    cases h
    intro ks ws rv sv H locs ls vs hr0 hs0 hG hP hD hS hl hv
    match vs, hv with
    | v2 :: vs, ⟨⟨xv, e2, hx1⟩, hv⟩ =>
      subst e2
      have hy1 : ab_ev rv (0, 0, 0) = some (0 : Int32).toInt := ab_ev0 rfl
      refine sm_45 hC hs (fun hc => ?_) (fun hc => ?_)
      · obtain ⟨h', g1, g2⟩ := ab_asm_snd (k := fun h' => [(b, lo, st, h', r')]) (imp := ([] : List ab_S)) hG hx1 hy1 hc
        refine k (b, lo, st, h', r') ?_ ks ws rv sv H locs ls vs hr0 hs0 g1 hP hD hS hl hv
        rw [g2]
        exact List.mem_append_left _ List.mem_cons_self
      · obtain ⟨h', g1, g2⟩ := ab_asm_snd (k := fun h' => [(Nat.add pc n, lo, st, h', r')]) (imp := ([] : List ab_S)) hG hx1 hy1 (ab_neg_ch hc)
        refine k (Nat.add pc n, lo, st, h', r') ?_ ks ws rv sv H locs ls vs hr0 hs0 g1 hP hD hS hl hv
        rw [g2]
        exact List.mem_append_right _ List.mem_cons_self
  · cases h
end AS2
