/-! ===== stores into rows ===== -/
def ab_kw (h : ab_H) (v : ab_A) (κ step : Nat) : Nat → Nat → Bool
  | 0, i => ab_fits h (ab_ke κ i) v
  | n + 1, i => ab_fits h (ab_ke κ i) v && ab_kw h v κ step n (Nat.add i step)
/-- the value is of the type of every place that the form may say -/
def ab_wt (h : ab_H) (κ : Nat) (f : ab_L) (v : ab_A) : Bool := bif !Nat.beq κ (nat_lit 37) then ab_fits h (ab_ke κ (nat_lit 0)) v else bif decide (f.2.1 = 0) then ab_fits h (ab_ke κ f.2.2.toNat) v else match ee_nth h.1 f.1 with
  | some q => bif decide (0 < f.2.1) && decide (0 ≤ f.2.1 * q.1 + f.2.2) then (ee_f (q.2 - q.1).toNat fun cnt => ee_f (f.2.1 * q.1 + f.2.2).toNat fun i => ab_kw h v κ f.2.1.toNat cnt i) else false
  | none => false
/-- what a store of a sort asks of the value: 0 int, 2 boolean, 3 a reference to the row's class -/
def ab_ws (h : ab_H) (want t : Nat) (v : ab_A) : Bool := match v with
  | .inl _ => bif Nat.beq want (nat_lit 0) then true else Nat.beq want (nat_lit 2) && ab_jf (nat_lit 1) h v
  | .inr (.inl 0) => Nat.beq want (nat_lit 3)
  | .inr (.inl (z + 1)) => Nat.beq want (nat_lit 3) && (Nat.beq (Nat.mod z (nat_lit 2)) (nat_lit 0) && (match ee_nth h.2.2.1 (Nat.div z (nat_lit 2)) with
    | some κ => (match ab_ko κ with
      | some q => Nat.beq q.1 (ee_ec t)
      | none => false)
    | none => false))
  | _ => false
/-- a place of the reference's row that a step may write: of the first block, and no row of lines -/
def ab_37 (h : ab_H) (f : ab_L) : Bool := match ab_bd h.1 f with
  | some q => decide (q.2 < 1580) && ((decide (q.2 < 540) || decide (620 ≤ q.1)) && ((decide (q.2 < 740) || decide (820 ≤ q.1)) && ((decide (q.2 < 940) || decide (1020 ≤ q.1)) && (decide (q.2 < 1140) || decide (1220 ≤ q.1)))))
  | none => false
def ab_n8 (h : ab_H) (f : ab_L) : Bool := match ab_bd h.1 f with
  | some q => decide (q.2 < 8) || decide (8 < q.1)
  | none => false
def ab_wok (wk : Nat → Bool) (h : ab_H) (κ : Nat) (f : ab_L) : Bool := wk κ && (!Nat.beq κ (nat_lit 37) || (ab_37 h f && (wk (nat_lit 99) || ab_n8 h f)))
def ab_o29 (wk : Nat → Bool) (want n : Nat) : ab_S → Option (List ab_S)
  | (pc, lo, v :: .inl f :: .inr (.inl (z + 1)) :: st, h, r) => bif Nat.beq (Nat.mod z (nat_lit 2)) (nat_lit 0) then (ee_f (Nat.div z (nat_lit 2)) fun i => match ee_nth h.2.2.1 i with
      | some κ => (match ab_ka κ with
        | some q => bif ab_kt q.1 want && (ab_inb h i q.2.1 f && (!Nat.beq κ (nat_lit 17) && ab_wok wk h κ f)) then (bif Nat.beq want (nat_lit 1) then (bif ab_isl v then some [(Nat.add pc n, lo, st, (h.1, h.2.1, h.2.2.1, ab_kx h κ f v h.2.2.2.1, (i, (nat_lit 1, f)) :: h.2.2.2.2), r)] else none)
            else bif ab_ws h want q.1 v && ab_wt h κ f v then some [(Nat.add pc n, lo, st, (h.1, h.2.1, h.2.2.1, (i, (nat_lit 1, f), v) :: ab_kx h κ f v h.2.2.2.1, (i, (nat_lit 1, f)) :: h.2.2.2.2), r)] else none) else none
        | none => none)
      | none => none) else none
  | _ => none
section SR
variable {cls : Nat → List ab_Cl} {dA : Nat → ClassId} {xa : List Nat} {ks : List Nat} {ws : va_W} {rv : List Int} {sv : List (Nat × Nat)} {h : ab_H}
theorem ab_kw_in {v : ab_A} {κ step : Nat} : ∀ {n i : Nat}, ab_kw h v κ step n i = true → ∀ j, j ≤ n → ab_fits h (ab_ke κ (i + j * step)) v = true
  | 0, i, hw, j, hj => by
    have hj0 : j = 0 := by omega
    subst hj0
    rw [Nat.zero_mul, Nat.add_zero]
    exact hw
  | n + 1, i, hw, j, hj => by
    unfold ab_kw at hw
    rw [Bool.and_eq_true] at hw
    cases j with
    | zero => rw [Nat.zero_mul, Nat.add_zero]; exact hw.1
    | succ j =>
      have e1 := ab_kw_in hw.2 j (by omega)
      have e4 : Nat.add i step + j * step = i + (j + 1) * step := by
        rw [Nat.add_mul, Nat.one_mul]
        show i + step + j * step = _
        omega
      rw [← e4]
      exact e1
theorem ab_wt_snd (hI : ab_I rv h.1) {κ : Nat} {f : ab_L} {v : ab_A} {xx : Int} (ht : ab_wt h κ f v = true) (hx : ab_ev rv f = some xx) (h0 : 0 ≤ xx) : ab_fits h (ab_ke κ xx.toNat) v = true := by
  unfold ab_wt at ht
  cases h37 : Nat.beq κ 37 with
  | false =>
    have e9 : (!Nat.beq κ (nat_lit 37)) = true := by
      show (!Nat.beq κ 37) = true
      rw [h37]; rfl
    rw [ee_ct e9] at ht
    rw [ab_ke_u h37]
    exact ht
  | true =>
    have e9 : (!Nat.beq κ (nat_lit 37)) = false := by
      show (!Nat.beq κ 37) = false
      rw [h37]; rfl
    rw [ee_cf e9] at ht
    by_cases hm : f.2.1 = 0
    · rw [ee_ct (by simpa using hm)] at ht
      rw [ab_ev0 hm] at hx
      have hx' := Option.some.inj hx
      rw [← hx']
      exact ht
    · rw [ee_cf (by simpa using hm)] at ht
      split at ht
      · rename_i q hq
        rw [ee_nth_eq] at hq
        obtain ⟨zz, z1, z2, z3⟩ := hI.2 _ _ hq
        obtain ⟨ww, w1, w2⟩ := ab_ev1 hm hx
        rw [z1] at w1
        cases w1
        cases hc : (decide (0 < f.2.1) && decide (0 ≤ f.2.1 * q.1 + f.2.2)) with
        | false => rw [ee_cf hc] at ht; cases ht
        | true =>
          rw [ee_ct hc] at ht
          simp only [ee_f_eq] at ht
          rw [Bool.and_eq_true, decide_eq_true_eq, decide_eq_true_eq] at hc
          have e1 := ab_kw_in ht (zz - q.1).toNat (by omega)
          have e4 : (f.2.1 * q.1 + f.2.2).toNat + (zz - q.1).toNat * f.2.1.toNat = xx.toNat := by
            have d1 : ((zz - q.1).toNat : Int) = zz - q.1 := Int.toNat_of_nonneg (by omega)
            have d2 : (f.2.1.toNat : Int) = f.2.1 := Int.toNat_of_nonneg (by omega)
            have d3 : ((f.2.1 * q.1 + f.2.2).toNat : Int) = f.2.1 * q.1 + f.2.2 := Int.toNat_of_nonneg hc.2
            have d4 : (xx.toNat : Int) = xx := Int.toNat_of_nonneg h0
            have d5 : (zz - q.1) * f.2.1 = f.2.1 * zz - f.2.1 * q.1 := by rw [Int.sub_mul, Int.mul_comm zz, Int.mul_comm q.1]
            apply Int.ofNat.inj
            show (((f.2.1 * q.1 + f.2.2).toNat + (zz - q.1).toNat * f.2.1.toNat : Nat) : Int) = (xx.toNat : Int)
            rw [Int.natCast_add, Int.natCast_mul, d1, d2, d3, d4, d5]
            omega
          rw [e4] at e1
          exact e1
      · cases ht
theorem ab_G_st {A : Nat → Prop} (hG : ab_G cls dA xa ks ws rv sv h) (hok : ab_cok cls) (hD : va_D A ws) {i kk ax κ N : Nat} {cA : ClassId} {c1 c2 : (Nat → Int32) ⊕ ((Nat → Int64) ⊕ ((Nat → UInt32) ⊕ ((Nat → UInt64) ⊕ (Nat → Option Nat))))} {f : ab_L} {xx : Nat} {va : ab_A} {xv : Int32} (hxv : ∀ w, va = .inl w → ab_ev rv w = some xv.toInt)
    (hq : sv[i]? = some (kk, ax)) (hk : ws[kk]? = some (ax, .inl (cA, N, c1))) (hκ : ks[kk]? = some κ) (him : κ ≠ 17) (hx : ab_ev rv f = some (xx : Int)) (hcell : ab_cell dA ks (ws.map (·.1)) κ (.inl (cA, N, c2)))
    (hrd : ∀ (t : Nat) (ii : Int), t < 3 → (t = 1 → ii ≠ (xx : Int)) → ab_rd (.inl (cA, N, c2)) t ii = ab_rd (.inl (cA, N, c1)) t ii) (hq8 : ∀ (t : Nat) (ii ii' : Int), 3 ≤ t → ab_qk (fun xo => ab_rd (.inl (cA, N, c1)) 1 (xx : Int) = some (.int xo)) t ii ii' xx xv → ab_Pq t (.inl (cA, N, c1)) ii → ab_Pq t (.inl (cA, N, c2)) ii') (hcr : ∀ rr : ab_R, rr.1 = 1 ∨ (rr.1 = 4 ∧ κ = 37) → rr.2.1 ≠ xx → ab_cr ws (.inl (cA, N, c2)) rr = ab_cr ws (.inl (cA, N, c1)) rr)
    (nf : List ab_F) (hnf : ∀ g ∈ nf, ab_fact rv sv xa (ws.set kk (ax, .inl (cA, N, c2))) g) : ab_G cls dA xa ks (ws.set kk (ax, .inl (cA, N, c2))) rv sv (h.1, h.2.1, h.2.2.1, nf ++ ab_kx h κ f va h.2.2.2.1, (i, (1, f)) :: h.2.2.2.2) := by
  refine ⟨hG.1, hG.2.1, ab_Kn_set hG.2.2.1 hk, fun g hg => ?_, ab_TW_arr hG.2.2.2.2.1 hk hκ hcell, ab_CL_arr hG.2.2.2.2.2 hok hG.2.2.2.2.1 hD hk hκ him (fun d hd => List.mem_cons_of_mem _ hd) (fun rr h1 hno => hcr rr h1 (fun z9 => hno ?_))⟩
  · rcases List.mem_append.mp hg with hg | hg
    · exact hnf g hg
    · rcases ab_kx_in hg with ⟨i1, i2, i3⟩ | ⟨i1, i2, κ', i3, i4⟩ | ⟨g0, i1, i2, i3⟩
      · exact ab_fact_set hk (hG.2.2.2.1 g i1) (fun ii hs hi => hrd _ _ i2 (fun h1 => ab_kx_ne hG i3 hκ hs hx hi h1))
      · refine ab_fact_set hk (hG.2.2.2.1 g i1) (fun ii hs hi => ?_)
        exfalso
        obtain ⟨q7, e7, w1, w2, w3⟩ := hG.2.2.1.2 _ κ' i3
        rw [hs] at w1
        cases w1
        rw [hκ] at w2
        exact i4 (Option.some.inj w2).symm
      · obtain ⟨qf, ef, ii, vf, f1, f2, f3, f4, f5⟩ := hG.2.2.2.1 g0 i1
        obtain ⟨z1, z2, z3, ii', z4, z5⟩ := ab_kq_snd (P9 := fun xo => ab_rd ef 1 (xx : Int) = some (.int xo)) hG.1 hG.2.1 (fun u hu => by
          obtain ⟨qu, eu, iu, vu, u1, u2, u3, u4, xu, u5, u6⟩ := hG.2.2.2.1 _ (ab_ff_in hu)
          rw [f1] at u1
          cases u1
          rw [f2] at u2
          cases u2
          have u3' : ab_ev rv f = some iu := u3
          rw [hx] at u3'
          cases u3'
          subst u5
          exact ⟨xu, u4, u6⟩) i3 hx hxv f3
        obtain ⟨gi, ⟨gt, gk⟩, ga⟩ := g
        obtain ⟨gi0, ⟨gt0, gk0⟩, ga0⟩ := g0
        dsimp only at z1 z2 z3 z4 z5 f1 f3 f4 f5 i2
        subst z1; subst z2; subst z3
        obtain ⟨t9, rfl⟩ : ∃ t9, gt = t9 + 3 := ⟨gt - 3, by omega⟩
        obtain ⟨p1, rfl⟩ := ab_rd_q2 f4
        have hlt := (List.getElem?_eq_some_iff.mp hk).1
        by_cases hne : qf.1 = kk
        · have hqf : qf = (kk, ax) := by
            rw [hne, hk] at f2
            have e6 : ax = qf.2 := congrArg Prod.fst (Option.some.inj f2)
            exact Prod.ext hne e6.symm
          subst hqf
          rw [hk] at f2
          cases f2
          exact ⟨(kk, ax), _, ii', .int 0, f1, by rw [List.getElem?_set_self hlt], z4, ab_rd_q (hq8 _ _ _ (by omega) z5 p1), f5⟩
        · refine ⟨qf, ef, ii', .int 0, f1, by rw [List.getElem?_set_ne (fun z9 => hne z9.symm)]; exact f2, z4, ab_rd_q ?_, f5⟩
          rcases z5 with ⟨-, rfl, -⟩ | ⟨e5, rfl⟩ | ⟨-, rfl, -⟩ | ⟨e6, -, ⟨rfl, -⟩ | ⟨rfl, -⟩⟩ | ⟨-, rfl, -, -⟩ | ⟨-, rfl, -⟩
          · exact p1
          · have e5' : t9 = 2 := by omega
            subst e5'
            obtain ⟨cA5, n5, ff5, h5, h6⟩ := p1
            refine ⟨cA5, n5, ff5, h5, ?_⟩
            have h7 : (((List.range n5).filter (fun j => ff5 j != 0)).length : Int) ≤ ii := h6
            show (((List.range n5).filter (fun j => ff5 j != 0)).length : Int) ≤ ii + 1
            omega
          · exact p1
          · exact p1
          · have e6' : t9 = 3 := by omega
            subst e6'
            obtain ⟨cA5, n5, ff5, h5, h6, h7⟩ := p1
            exact ⟨cA5, n5, ff5, h5, h6, fun b hb c hc => by have h8 := h7 b hb c hc; omega⟩
          · exact p1
          · exact p1
  · exact ⟨_, List.mem_cons_self, (kk, ax), hq, rfl, rfl, by rw [z9]; exact hx⟩
end SR
