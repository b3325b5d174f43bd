/-! ===== contracts of described methods; what comes back from a call ===== -/
abbrev ab_X : Type := Option ab_A × ab_H × Nat × Nat
abbrev ab_K : Type := (Nat × Nat) × (Nat × Nat) × (List ab_A × ab_H) × List ab_X × Nat × Nat
def ab_wm (m κ : Nat) : Bool := Nat.beq (Nat.land (Nat.shiftRight m κ) (nat_lit 1)) (nat_lit 1)
def ab_an (rv : List Int) (sv : List (Nat × Nat)) (xa : List Nat) : Option Value → Option ab_A → Prop
  | none, none => True
  | some v, some a => ab_ok rv sv xa v a
  | _, _ => False
def ab_CT (cls : Nat → List ab_Cl) (l : Launch) (D : va_G) (dA : Nat → ClassId) (xa : List Nat) (xt : ee_X) (B : Nat) (K : ab_K) : Prop :=
  ∀ (d : Nat), K.1.2 ≤ d → ∀ (ke : Option Nat) (ks0 : List Nat) (ws0 : va_W) (rv0 : List Int) (sv0 : List (Nat × Nat)) (vs0 : List Value),
    ab_G cls dA xa ks0 ws0 rv0 sv0 K.2.2.1.2 → ab_a2 (ab_ok rv0 sv0 xa) vs0 K.2.2.1.1 → (∀ k, ks0[k]? = some 29 → ke = some k) →
    ct l D dA xa xt B d K.1.1 (K.2.1.1 + (6144 - ab_ph ke ks0 ws0 / 1024)) (K.2.1.2 + (6291456 - ab_ph ke ks0 ws0)) (fun vs ws => vs = vs0 ∧ ws = ws0)
      (fun v ws1 k n => ∃ (x : ab_X) (ks1 : List Nat) (rv1 : List Int) (sv1 : List (Nat × Nat)), x ∈ K.2.2.2.1 ∧ rv0 <+: rv1 ∧ ab_px (sv0, (ks0, ws0), ab_wm K.2.2.2.2.1, ke, K.2.2.2.2.2, ab_ph ke ks0 ws0) ks1 ws1 sv1 ∧ ab_G cls dA xa ks1 ws1 rv1 sv1 x.2.1 ∧ ab_an rv1 sv1 xa v x.1 ∧ k = x.2.2.1 + (ab_ph ke ks1 ws1 / 1024 - ab_ph ke ks0 ws0 / 1024) ∧ n = x.2.2.2 + (ab_ph ke ks1 ws1 - ab_ph ke ks0 ws0))
/-! the callee's names in the caller's -/
def ab_ta (σ : List ab_L) (ρ : List Nat) : ab_A → Option ab_A
  | .inl f => (match ab_sf σ f with
    | some g => some (.inl g)
    | none => none)
  | .inr (.inl 0) => some (.inr (.inl (nat_lit 0)))
  | .inr (.inl (z + 1)) => bif Nat.beq (Nat.mod z (nat_lit 2)) (nat_lit 0) then (match ee_nth ρ (Nat.div z (nat_lit 2)) with
    | some r => ee_f (Nat.succ (Nat.mul (nat_lit 2) r)) fun u => some (.inr (.inl u))
    | none => none) else none
  | .inr (.inr j) => some (.inr (.inr j))
def ab_tf (σ : List ab_L) (ρ : List Nat) : List ab_F → List ab_F
  | [] => []
  | f :: fs => match ee_nth ρ f.1, ab_skk σ f.2.1, ab_ta σ ρ f.2.2 with
    | some r, some k, some a => (r, k, a) :: ab_tf σ ρ fs
    | _, _, _ => ab_tf σ ρ fs
def ab_td (σ : List ab_L) (ρ : List Nat) : List (Nat × ab_Key) → Option (List (Nat × ab_Key))
  | [] => some []
  | d :: ds => match ee_nth ρ d.1, ab_skk σ d.2, ab_td σ ρ ds with
    | some r, some k, some l => some ((r, k) :: l)
    | _, _, _ => none
def ab_tr (σ : List ab_L) : List (Nat × Nat × Int) → List (Nat × Nat × Int)
  | [] => []
  | r :: l => match ee_nth σ r.1, ee_nth σ r.2.1 with
    | some f, some g => bif decide (f.2.1 = 1) && decide (g.2.1 = 1) then (ab_g (r.2.2 + g.2.2 - f.2.2) fun d => (f.1, g.1, d) :: ab_tr σ l) else ab_tr σ l
    | _, _ => ab_tr σ l
def ab_ids {α : Type} : Nat → List α → List ab_L
  | _, [] => []
  | n, _ :: l => (n, 1, 0) :: ab_ids (Nat.succ n) l
def ab_idn {α : Type} : Nat → List α → List Nat
  | _, [] => []
  | n, _ :: l => n :: ab_idn (Nat.succ n) l
def ab_app {α : Type} : List α → List α → List α
  | [], m => m
  | a :: l, m => a :: ab_app l m
def ab_drp {α : Type} : Nat → List α → List α
  | 0, l => l
  | _ + 1, [] => []
  | n + 1, _ :: l => ab_drp n l
theorem ab_app_eq {α : Type} (l m : List α) : ab_app l m = l ++ m := by
  induction l with
  | nil => rfl
  | cons a l ih => show a :: ab_app l m = _; rw [ih]; rfl
theorem ab_drp_eq {α : Type} : ∀ (n : Nat) (l : List α), ab_drp n l = l.drop n
  | 0, _ => rfl
  | _ + 1, [] => rfl
  | n + 1, _ :: l => ab_drp_eq n l
theorem ab_ids_at {α : Type} : ∀ (l : List α) (n i : Nat), (ab_ids n l)[i]? = if i < l.length then some (n + i, 1, 0) else none
  | [], n, i => by simp [ab_ids]
  | a :: l, n, 0 => by simp [ab_ids]
  | a :: l, n, i + 1 => by
    have h := ab_ids_at l (n + 1) i
    show (ab_ids (n + 1) l)[i]? = _
    rw [h]
    simp only [List.length_cons, Nat.add_lt_add_iff_right]
    split
    · congr 2; omega
    · rfl
theorem ab_ids_len {α : Type} : ∀ (l : List α) (n : Nat), (ab_ids n l).length = l.length
  | [], _ => rfl
  | _ :: l, n => by show (ab_ids (n + 1) l).length + 1 = _; rw [ab_ids_len l (n + 1)]; rfl
theorem ab_idn_at {α : Type} : ∀ (l : List α) (n i : Nat), (ab_idn n l)[i]? = if i < l.length then some (n + i) else none
  | [], n, i => by simp [ab_idn]
  | a :: l, n, 0 => by simp [ab_idn]
  | a :: l, n, i + 1 => by
    have h := ab_idn_at l (n + 1) i
    show (ab_idn (n + 1) l)[i]? = _
    rw [h]
    simp only [List.length_cons, Nat.add_lt_add_iff_right]
    split
    · congr 1; omega
    · rfl
theorem ab_idn_len {α : Type} : ∀ (l : List α) (n : Nat), (ab_idn n l).length = l.length
  | [], _ => rfl
  | _ :: l, n => by show (ab_idn (n + 1) l).length + 1 = _; rw [ab_idn_len l (n + 1)]; rfl
section RV
variable {rv rv' : List Int} {sv sv' : List (Nat × Nat)} {xa : List Nat} {σ : List ab_L} {ρ : List Nat}
theorem ab_sf_rev (hS : ab_SG rv sv σ ρ rv' sv') {f g : ab_L} {x : Int} (h : ab_sf σ f = some g) (hx : ab_ev rv' f = some x) : ab_ev rv g = some x := by
  unfold ab_sf at h
  by_cases h0 : f.2.1 = 0
  · rw [ee_ct (by simpa using h0)] at h
    cases h
    rw [ab_ev0 h0] at hx
    rw [ab_ev0 rfl]
    exact hx
  · rw [ee_cf (by simpa using h0)] at h
    obtain ⟨w, w1, w2⟩ := ab_ev1 h0 hx
    split at h
    · rename_i g9 hg
      rw [ee_nth_eq] at hg
      obtain ⟨z, z1, z2⟩ := hS.1.2 _ _ hg
      rw [w1] at z2
      cases z2
      by_cases h1 : g9.2.1 = 0
      · rw [ee_ct (by simpa using h1), ab_g_eq] at h
        cases h
        rw [ab_ev0 h1] at z1
        rw [ab_ev0 rfl, w2, ← Option.some.inj z1]
      · rw [ee_cf (by simpa using h1), ab_g_eq, ab_g_eq] at h
        cases h
        obtain ⟨w8, w3, w4⟩ := ab_ev1 h1 z1
        have hm : f.2.1 * g9.2.1 ≠ 0 := Int.mul_ne_zero h0 h1
        unfold ab_ev
        rw [if_neg hm]
        show Option.map (fun z => f.2.1 * g9.2.1 * z + (f.2.1 * g9.2.2 + f.2.2)) rv[g9.1]? = some x
        rw [w3, w2, w4]
        show some (f.2.1 * g9.2.1 * w8 + (f.2.1 * g9.2.2 + f.2.2)) = some (f.2.1 * (g9.2.1 * w8 + g9.2.2) + f.2.2)
        rw [Int.mul_add, Int.mul_assoc, Int.add_assoc]
    · cases h
theorem ab_skk_rev (hS : ab_SG rv sv σ ρ rv' sv') {key key' : ab_Key} {i : Int} (h : ab_skk σ key = some key') (hi : ab_ki rv' key = some i) : ab_ki rv key' = some i ∧ key'.1 = key.1 := by
  obtain ⟨t9, f9⟩ := key
  unfold ab_skk at h
  dsimp only at h
  cases hc : (Nat.beq t9 (nat_lit 0) || Nat.beq t9 (nat_lit 2)) with
  | true =>
    rw [ee_ct hc] at h
    cases h
    rw [Bool.or_eq_true] at hc
    rcases hc with hc | hc
    · have e9 : t9 = 0 := Nat.eq_of_beq_eq_true hc
      subst e9
      exact ⟨hi, rfl⟩
    · have e9 : t9 = 2 := Nat.eq_of_beq_eq_true hc
      subst e9
      exact ⟨hi, rfl⟩
  | false =>
    rw [ee_cf hc] at h
    cases h6 : (Nat.beq t9 (nat_lit 6) && !(ab_s0 σ)) with
    | true => rw [ee_ct h6] at h; cases h
    | false =>
      rw [ee_cf h6] at h
      split at h
      · rename_i g9 hg9
        cases h
        refine ⟨?_, rfl⟩
        match t9, hc, h6, hi with
        | 0, hc, _, _ => cases hc
        | 1, _, _, hi => exact ab_sf_rev hS hg9 hi
        | 2, hc, _, _ => cases hc
        | 3, _, _, hi => exact ab_sf_rev hS hg9 hi
        | 4, _, _, hi => exact ab_sf_rev hS hg9 hi
        | 5, _, _, hi => exact ab_sf_rev hS hg9 hi
        | 6, _, h6, hi =>
          match σ, hS, hg9, h6 with
          | [], _, _, h6 => cases h6
          | f0 :: σ', hS, hg9, h6 =>
            have h7 : (!(ab_leq f0 (0, 1, 0))) = false := h6
            have h8 : ab_leq f0 (0, 1, 0) = true := by
              cases h9 : ab_leq f0 (0, 1, 0) with
              | true => rfl
              | false => rw [h9] at h7; cases h7
            have e0 : f0 = (0, 1, 0) := ab_leq_eq h8
            obtain ⟨z, z1, z2⟩ := hS.1.2 0 f0 rfl
            rw [e0] at z1
            obtain ⟨w, w1, w2⟩ := ab_ev1 (f := (0, 1, 0)) (show ¬ ((1 : Int) = 0) by decide) z1
            have w1' : rv[0]? = some w := w1
            have w2' : z = w := by
              have w3 : z = 1 * w + 0 := w2
              omega
            have hi' : (match rv'[0]?, ab_ev rv' f9 with
              | some n, some x => some (n + x)
              | _, _ => none) = some i := hi
            show (match rv[0]?, ab_ev rv g9 with
              | some n, some x => some (n + x)
              | _, _ => none) = some i
            cases hx8 : ab_ev rv' f9 with
            | none => rw [z2, hx8] at hi'; cases hi'
            | some x8 =>
              rw [z2, hx8] at hi'
              rw [w1', ab_sf_rev hS hg9 hx8, ← w2']
              exact hi'
        | t9 + 7, _, _, hi => exact ab_sf_rev hS hg9 hi
      · cases h
theorem ab_ta_ok (hS : ab_SG rv sv σ ρ rv' sv') {a b : ab_A} {v : Value} (h : ab_ta σ ρ a = some b) (hv : ab_ok rv' sv' xa v a) : ab_ok rv sv xa v b := by
  match a, h, hv with
  | .inl f, h, ⟨x, e9, hx⟩ =>
    have h' : (match ab_sf σ f with
      | some g => some (Sum.inl g : ab_A)
      | none => none) = some b := h
    split at h'
    · rename_i g9 hg9
      cases h'
      exact ⟨x, e9, ab_sf_rev hS hg9 hx⟩
    · cases h'
  | .inr (.inl 0), h, hv =>
    cases h
    exact hv
  | .inr (.inl (z + 1)), h, hv =>
    have h' : (bif Nat.beq (Nat.mod z (nat_lit 2)) (nat_lit 0) then (match ee_nth ρ (Nat.div z (nat_lit 2)) with
      | some r => ee_f (Nat.succ (Nat.mul (nat_lit 2) r)) fun u => some (Sum.inr (.inl u) : ab_A)
      | none => none) else none) = some b := h
    cases hz : Nat.beq (Nat.mod z (nat_lit 2)) (nat_lit 0) with
    | false => rw [ee_cf hz] at h'; cases h'
    | true =>
      rw [ee_ct hz] at h'
      split at h'
      · rename_i r9 hr9
        rw [ee_f_eq] at h'
        cases h'
        rw [ee_nth_eq] at hr9
        obtain ⟨q, q1, q2⟩ := ab_nnul hz hv
        obtain ⟨q9, y1, y2⟩ := hS.2.2 _ _ hr9
        have q1' : sv'[Nat.div z 2]? = some q := q1
        rw [show sv'[Nat.div z 2]? = some q9 from y2] at q1'
        have e9 : q9 = q := Option.some.inj q1'
        subst e9
        refine Or.inl ⟨q9, ?_, q2⟩
        have e3 : Nat.mul 2 r9 / 2 = r9 := by
          show (2 * r9) / 2 = _
          omega
        rw [show (Nat.mul (nat_lit 2) r9) / 2 = r9 from e3]
        exact y1
      · cases h'
  | .inr (.inr j), h, hv =>
    cases h
    match j, hv with
    | 1, hv => exact hv
    | j + 2, hv => exact hv
theorem ab_tr_in (hS : ab_SG rv sv σ ρ rv' sv') {rl : List (Nat × Nat × Int)} (hr : ab_Rl rv' rl) : ab_Rl rv (ab_tr σ rl) := by
  induction rl with
  | nil => intro r h; cases h
  | cons q l ih =>
    have ih := ih (fun r h => hr r (List.mem_cons_of_mem _ h))
    unfold ab_tr
    split
    · rename_i f g hf hg
      cases hc : (decide (f.2.1 = 1) && decide (g.2.1 = 1)) with
      | false => exact ih
      | true =>
        show ab_Rl rv (ab_g (q.2.2 + g.2.2 - f.2.2) fun d => (f.1, g.1, d) :: ab_tr σ l)
        rw [ab_g_eq]
        rw [Bool.and_eq_true, decide_eq_true_eq, decide_eq_true_eq] at hc
        intro r hm
        rcases List.mem_cons.mp hm with rfl | hm
        · rw [ee_nth_eq] at hf hg
          obtain ⟨x, x1, x2⟩ := hS.1.2 _ _ hf
          obtain ⟨u, u1, u2⟩ := hS.1.2 _ _ hg
          obtain ⟨a, b, a1, b1, b2⟩ := hr q List.mem_cons_self
          rw [x2] at a1
          cases a1
          rw [u2] at b1
          cases b1
          obtain ⟨w, w1, w2⟩ := ab_ev1 (by rw [hc.1]; decide) x1
          obtain ⟨w', w3, w4⟩ := ab_ev1 (by rw [hc.2]; decide) u1
          rw [hc.1] at w2
          rw [hc.2] at w4
          exact ⟨w, w', w1, w3, by dsimp only; omega⟩
        · exact ih r hm
    · exact ih
theorem ab_tf_in {ws : va_W} (hS : ab_SG rv sv σ ρ rv' sv') {fs : List ab_F} (hf : ∀ f ∈ fs, ab_fact rv' sv' xa ws f) : ∀ f ∈ ab_tf σ ρ fs, ab_fact rv sv xa ws f := by
  induction fs with
  | nil => intro f h; cases h
  | cons q l ih =>
    have ih := ih (fun r h => hf r (List.mem_cons_of_mem _ h))
    unfold ab_tf
    split
    · rename_i r k a hr hk ha
      intro f hm
      rcases List.mem_cons.mp hm with rfl | hm
      · obtain ⟨qf, ef, ii, vf, f1, f2, f3, f4, f5⟩ := hf q List.mem_cons_self
        rw [ee_nth_eq] at hr
        obtain ⟨q9, y1, y2⟩ := hS.2.2 _ _ hr
        rw [f1] at y2
        cases y2
        obtain ⟨k1, k2⟩ := ab_skk_rev hS hk f3
        exact ⟨_, ef, ii, vf, y1, f2, k1, by rw [show (r, k, a).2.1.1 = q.2.1.1 from k2]; exact f4, ab_ta_ok hS ha f5⟩
      · exact ih f hm
    · exact ih
theorem ab_td_open (hS : ab_SG rv sv σ ρ rv' sv') {k : Nat} {pp : Nat × Nat} : ∀ {dt dt' : List (Nat × ab_Key)}, ab_td σ ρ dt = some dt' → ab_open rv' sv' dt k pp → ab_open rv sv dt' k pp
  | [], _, h, ho => by
    obtain ⟨d, hd, -⟩ := ho
    cases hd
  | d :: ds, dt', h, ho => by
    unfold ab_td at h
    split at h
    · rename_i r k9 l9 hr hk hl
      cases h
      obtain ⟨d9, hd, q, q1, q2, q3, q4⟩ := ho
      rcases List.mem_cons.mp hd with rfl | hd
      · rw [ee_nth_eq] at hr
        obtain ⟨q9, y1, y2⟩ := hS.2.2 _ _ hr
        rw [q1] at y2
        cases y2
        obtain ⟨k1, k2⟩ := ab_skk_rev hS hk q4
        exact ⟨_, List.mem_cons_self, q, y1, q2, k2.trans q3, k1⟩
      · obtain ⟨d8, hd8, rest⟩ := ab_td_open hS hl ⟨d9, hd, q, q1, q2, q3, q4⟩
        exact ⟨d8, List.mem_cons_of_mem _ hd8, rest⟩
    · cases h
end RV
