/-! ===== a cell is read: a fact, or a new name by its type ===== -/
def ab_leq (a b : ab_L) : Bool := Nat.beq a.1 b.1 && (decide (a.2.1 = b.2.1) && decide (a.2.2 = b.2.2))
theorem ab_leq_eq {a b : ab_L} (hh : ab_leq a b = true) : a = b := by
  unfold ab_leq at hh
  rw [Bool.and_eq_true, Bool.and_eq_true, decide_eq_true_eq, decide_eq_true_eq] at hh
  obtain ⟨a1, a2, a3⟩ := a
  obtain ⟨b1, b2, b3⟩ := b
  dsimp only at hh
  rw [Nat.eq_of_beq_eq_true hh.1, hh.2.1, hh.2.2]
def ab_keq (a b : ab_Key) : Bool := Nat.beq a.1 b.1 && ab_leq a.2 b.2
theorem ab_keq_eq {a b : ab_Key} (hh : ab_keq a b = true) : a = b := by
  unfold ab_keq at hh
  rw [Bool.and_eq_true] at hh
  obtain ⟨a1, a2⟩ := a
  obtain ⟨b1, b2⟩ := b
  dsimp only at hh
  rw [Nat.eq_of_beq_eq_true hh.1, ab_leq_eq hh.2]
/-- the fact of a place -/
def ab_ff : List ab_F → Nat → ab_Key → Option ab_A
  | [], _, _ => none
  | q :: fs, r, key => bif Nat.beq q.1 r && ab_keq q.2.1 key then some q.2.2 else ab_ff fs r key
theorem ab_ff_in {fs : List ab_F} {r : Nat} {key : ab_Key} {a : ab_A} (hh : ab_ff fs r key = some a) : (r, key, a) ∈ fs := by
  induction fs with
  | nil => cases hh
  | cons q fs ih =>
    unfold ab_ff at hh
    cases hc : (Nat.beq q.1 r && ab_keq q.2.1 key) with
    | false => rw [ee_cf hc] at hh; exact List.mem_cons_of_mem _ (ih hh)
    | true =>
      rw [ee_ct hc] at hh
      rw [Bool.and_eq_true] at hc
      cases hh
      obtain ⟨q1, q2, q3⟩ := q
      dsimp only at hc
      rw [← Nat.eq_of_beq_eq_true hc.1, ← ab_keq_eq hc.2]
      exact List.mem_cons_self
def ab_adf (h : ab_H) (f : ab_F) : ab_H := (h.1, h.2.1, h.2.2.1, f :: h.2.2.2.1, h.2.2.2.2)
/-- a value of a type, by new names; one that may be null in two ways -/
def ab_val (t : ab_T) (h : ab_H) (k : ab_H → ab_A → List ab_S) : Option (List ab_S) := match t with
  | .inl q => some (ab_fr h q.1 q.2 fun h' f => k h' (.inl f))
  | .inr (.inl m) => some (ee_f (Nat.div m (nat_lit 2)) fun κ => ee_f (ee_len h.2.2.1) fun n => (k (h.1, h.2.1, ab_snoc h.2.2.1 κ, h.2.2.2) (.inr (.inl (Nat.succ (Nat.mul (nat_lit 2) n))))) ++ (bif Nat.beq (Nat.mod m (nat_lit 2)) (nat_lit 1) then k h (.inr (.inl (nat_lit 0))) else []))
  | .inr (.inr _) => none
section GT
variable {cls : Nat → List ab_Cl} {dA : Nat → ClassId} {xa : List Nat} {ks : List Nat} {ws : va_W} {rv : List Int} {sv : List (Nat × Nat)} {h : ab_H}
theorem ab_G_ref (hG : ab_G cls dA xa ks ws rv sv h) {kk aa κ : Nat} {ee : va_E} (h1 : ks[kk]? = some κ) (h2 : ws[kk]? = some (aa, ee)) : ab_G cls dA xa ks ws rv (sv ++ [(kk, aa)]) (h.1, h.2.1, ab_snoc h.2.2.1 κ, h.2.2.2) := by
  obtain ⟨g1, g2, ⟨i1, i2⟩, g4, g5, g6⟩ := hG
  have hp : sv <+: sv ++ [(kk, aa)] := List.prefix_append sv [(kk, aa)]
  refine ⟨g1, g2, ?_, fun f hf => ab_fact_mono (List.prefix_refl rv) hp (g4 f hf), g5, ab_CL_mono (List.prefix_refl rv) hp g6⟩
  show ab_Kn ks ws (sv ++ [(kk, aa)]) (ab_snoc h.2.2.1 κ)
  rw [ab_snoc_eq]
  refine ⟨by simp [i1], fun i κ' hq => ?_⟩
  by_cases hi9 : i < h.2.2.1.length
  · rw [List.getElem?_append_left hi9] at hq
    obtain ⟨q, e9, w1, w2⟩ := i2 i κ' hq
    exact ⟨q, e9, ab_pre hp w1, w2⟩
  · rw [List.getElem?_append_right (by omega)] at hq
    have h0 : i - h.2.2.1.length = 0 := by
      have := (List.getElem?_eq_some_iff.mp hq).1
      simp at this
      omega
    rw [h0] at hq
    have hq' : κ = κ' := by simpa using hq
    subst hq'
    have hi : i = sv.length := by omega
    subst hi
    exact ⟨(kk, aa), ee, by simp, h1, h2⟩
theorem ab_G_adf (hG : ab_G cls dA xa ks ws rv sv h) {f : ab_F} (hf : ab_fact rv sv xa ws f) : ab_G cls dA xa ks ws rv sv (ab_adf h f) := by
  obtain ⟨g1, g2, g3, g4, g5, g6⟩ := hG
  refine ⟨g1, g2, g3, fun f9 h9 => ?_, g5, g6⟩
  rcases List.mem_cons.mp h9 with rfl | h9
  · exact hf
  · exact g4 f9 h9
theorem ab_val_snd (hG : ab_G cls dA xa ks ws rv sv h) {t : ab_T} {k : ab_H → ab_A → List ab_S} {L : List ab_S} (hk : ab_val t h k = some L) {v : Value} (hv : ab_tv ks (ws.map (·.1)) v t) :
    ∃ (rv' : List Int) (sv' : List (Nat × Nat)) (h' : ab_H) (a : ab_A), rv <+: rv' ∧ sv <+: sv' ∧ ab_G cls dA xa ks ws rv' sv' h' ∧ ab_ok rv' sv' xa v a ∧ ∀ S ∈ k h' a, S ∈ L := by
  match t, hk, hv with
  | .inl q, hk, ⟨x, e9, x1, x2⟩ =>
    subst e9
    unfold ab_val at hk
    dsimp only at hk
    unfold ab_fr at hk
    simp only [ab_g_eq, ee_f_eq, ee_len_eq] at hk
    cases hk
    obtain ⟨g1, g2⟩ := ab_G_new hG x1 x2
    exact ⟨_, sv, _, .inl (h.1.length, 1, 0), List.prefix_append rv [x.toInt], List.prefix_refl sv, g1, ⟨x, rfl, g2⟩, fun S hS => hS⟩
  | .inr (.inl m), hk, hv =>
    unfold ab_val at hk
    dsimp only at hk
    simp only [ee_f_eq, ee_len_eq] at hk
    cases hk
    rcases hv with ⟨kk, aa, w1, w2, rfl⟩ | ⟨w1, rfl⟩
    · obtain ⟨q, hq, hq2⟩ : ∃ q, ws[kk]? = some q ∧ q.1 = aa := by
        rw [List.getElem?_map] at w2
        cases hw : ws[kk]? with
        | none => rw [hw] at w2; cases w2
        | some q => rw [hw] at w2; exact ⟨q, rfl, Option.some.inj w2⟩
      obtain ⟨q1, q2⟩ := q
      dsimp only at hq2
      subst hq2
      refine ⟨rv, sv ++ [(kk, q1)], _, _, List.prefix_refl rv, List.prefix_append sv _, ab_G_ref hG w1 hq, ?_, fun S hS => List.mem_append_left _ hS⟩
      refine Or.inl ⟨(kk, q1), ?_, rfl⟩
      have e1 : (2 * h.2.2.1.length) / 2 = sv.length := by rw [← hG.2.2.1.1]; omega
      show (sv ++ [(kk, q1)])[Nat.mul 2 h.2.2.1.length / 2]? = _
      have e2 : Nat.mul 2 h.2.2.1.length / 2 = sv.length := e1
      rw [e2]
      simp
    · refine ⟨rv, sv, h, .inr (.inl 0), List.prefix_refl rv, List.prefix_refl sv, hG, rfl, fun S hS => List.mem_append_right _ ?_⟩
      have e1 : Nat.beq (Nat.mod m 2) 1 = true := by
        have h9 : m % 2 = 1 := w1
        show Nat.beq (m % 2) 1 = true
        rw [h9]
        rfl
      rw [ee_ct e1]
      exact hS
end GT
/-- getfield: b is 64 * class + field -/
def ab_o25 (b n : Nat) : ab_S → Option (List ab_S)
  | (pc, lo, .inr (.inl (z + 1)) :: st, h, r) => bif Nat.beq (Nat.mod z (nat_lit 2)) (nat_lit 0) then (ee_f (Nat.div z (nat_lit 2)) fun i => match ee_nth h.2.2.1 i with
      | some κ => (match ab_ko κ with
        | some q => bif Nat.beq q.1 (Nat.div b (nat_lit 64)) then (ee_f (Nat.mod b (nat_lit 64)) fun j => match ab_ff h.2.2.2.1 i (nat_lit 0, j, 0, 0) with
            | some a => bif ab_is1 a then some [(Nat.add pc n, lo, a :: st, h, r)] else none
            | none => (match ee_nth q.2 j with
              | some t => ab_val t h fun h' a => [(Nat.add pc n, lo, a :: st, ab_adf h' (i, (nat_lit 0, j, 0, 0), a), r)]
              | none => none)) else none
        | none => none)
      | none => none) else none
  | _ => none
section GT2
variable {cls : Nat → List ab_Cl} {p : Program} {l : Launch} {e : Env} {R : Room} {s : State} {m : MethodId} {args : Array Value} {below : List Frame} {meth : Method} {c : Code} {Q : State → Prop} {D : va_G} {dA : Nat → ClassId} {xa : List Nat} {xt : ee_X} {B : Nat} {rv0 : List Int} {sv0 : ab_B} {y : Nat}
variable {pc a b n : Nat} {r : List ab_A × List ab_A × ab_H × Nat × Nat} {L : List ab_S}
theorem ab_nnul {z : Nat} (hz : Nat.beq (Nat.mod z 2) 0 = true) {rv : List Int} {sv : List (Nat × Nat)} {v : Value} (hv : ab_ok rv sv xa v (.inr (.inl (z + 1)))) : ∃ q : Nat × Nat, sv[z / 2]? = some q ∧ v = .ref q.2 := by
  have h9 : z % 2 = 0 := Nat.eq_of_beq_eq_true hz
  rcases hv with hv | ⟨h1, -⟩
  · exact hv
  · omega
theorem as_25 (hC : ee_C p s m args meth c D dA xa xt B y) (hs : ee_sc y pc (25, a, b, n) = true) (h : ab_o25 b n (pc, r) = some L) (k : ∀ S ∈ L, ab_WS cls p l e R s m args below meth c Q D dA xa B rv0 sv0 y S) : ab_WS cls p l e R s m args below meth c Q D dA xa B rv0 sv0 y (pc, r) := by
  unfold ab_o25 at h
  split at h
  · rename_i pc' lo z st hh r' heq
    cases heq
    cases hz : Nat.beq (Nat.mod z (nat_lit 2)) (nat_lit 0) with
    | false => rw [ee_cf hz] at h; cases h
    | true =>
      rw [ee_ct hz, ee_f_eq] at h
      split at h
      · rename_i κ hκ
        split at h
        · rename_i q hko
          obtain ⟨ci, ts⟩ := q
          cases hci : Nat.beq ci (Nat.div b (nat_lit 64)) with
          | false => rw [ee_cf hci] at h; cases h
          | true =>
            rw [ee_ct hci, ee_f_eq] at h
            have e1 : ci = b / 64 := Nat.eq_of_beq_eq_true hci
            subst e1
            intro ks ws rv sv H locs ls vs hr0 hs0 hG hP hD hS hl hv
            match vs, hv with
            | v :: vs, ⟨hok, hv⟩ =>
              obtain ⟨q, hq1, rfl⟩ := ab_nnul hz hok
              rw [ee_nth_eq] at hκ
              obtain ⟨q', e9, hq2, hk1, hk2⟩ := hG.2.2.1.2 _ κ hκ
              have hq3 : sv[z / 2]? = some q' := hq2
              rw [hq1] at hq3
              cases hq3
              obtain ⟨a9, e8, hw8, hcell⟩ := hG.2.2.2.2.1.2 _ κ hk1
              rw [hk2] at hw8
              cases hw8
              obtain ⟨fvs, rfl, hlen, hty⟩ := hcell.1 _ _ hko
              split at h
              · rename_i w hw
                cases h1 : ab_is1 w with
                | false => rw [ee_cf h1] at h; cases h
                | true =>
                  rw [ee_ct h1] at h
                  cases h
                  obtain ⟨qf, ef, ii, vf, f1, f2, f3, f4, f5⟩ := hG.2.2.2.1 _ (ab_ff_in hw)
                  have f1' : sv[z / 2]? = some qf := f1
                  rw [hq1] at f1'
                  cases f1'
                  rw [hk2] at f2
                  cases f2
                  cases f3
                  have f4' : fvs[b % 64]? = some vf := f4
                  exact sm_25 hC hs hP hk2 f4' (k _ List.mem_cons_self ks ws rv sv H locs ls (vf :: vs) hr0 hs0 hG hP hD hS hl ⟨f5, hv⟩)
              · split at h
                · rename_i t ht
                  rw [ee_nth_eq] at ht
                  obtain ⟨v9, hv9, htv⟩ := hty _ t ht
                  obtain ⟨rv', sv', h', a', p1, p2, hG', hok', hL⟩ := ab_val_snd hG h htv
                  refine sm_25 hC hs hP hk2 hv9 (k _ (hL _ List.mem_cons_self) ks ws rv' sv' H locs ls (v9 :: vs) (hr0.trans p1) (ab_px_sv hs0 p2) (ab_G_adf hG' ?_) hP hD hS (ab_lo_mono p1 p2 hl) ⟨hok', ab_a2_mono (fun _ _ => ab_ok_mono p1 p2) hv⟩)
                  exact ⟨q, _, _, v9, ab_pre p2 hq1, hk2, rfl, hv9, hok'⟩
                · cases h
        · cases h
      · cases h
  · cases h
end GT2
