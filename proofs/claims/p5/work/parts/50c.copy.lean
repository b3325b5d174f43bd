/-! ===== arraycopy between rows of ints whose kinds have no clauses ===== -/
/-- facts that a write of places f .. f + n - 1 of kind κ leaves -/
def ab_kc (h : ab_H) (κ : Nat) (f f2 : ab_L) : List ab_F → List ab_F
  | [] => []
  | g :: fs => bif Nat.beq g.2.1.1 (nat_lit 0) || (Nat.beq g.2.1.1 (nat_lit 2) || ((match ee_nth h.2.2.1 g.1 with
      | some κ' => !Nat.beq κ' κ
      | none => false) || ((Nat.beq g.2.1.1 (nat_lit 1) && ((match ab_dl h f g.2.1.2 with
        | some d => decide (1 ≤ d)
        | none => false) || (match ab_dl h g.2.1.2 f2 with
        | some d => decide (1 ≤ d)
        | none => false))) || (Nat.beq g.2.1.1 (nat_lit 3) && (match ab_dl h f (g.2.1.2.1, 4 * g.2.1.2.2.1, 4 * g.2.1.2.2.2) with
        | some d => decide (0 ≤ d)
        | none => false))))) then g :: ab_kc h κ f f2 fs else ab_kc h κ f f2 fs
theorem ab_kc_in {h : ab_H} {κ : Nat} {f f2 : ab_L} {fs : List ab_F} {g : ab_F} (hg : g ∈ ab_kc h κ f f2 fs) : g ∈ fs ∧ (g.2.1.1 = 0 ∨ g.2.1.1 = 2 ∨ (∃ κ', h.2.2.1[g.1]? = some κ' ∧ κ' ≠ κ) ∨ (g.2.1.1 = 1 ∧ ((∃ d, ab_dl h f g.2.1.2 = some d ∧ 1 ≤ d) ∨ ∃ d, ab_dl h g.2.1.2 f2 = some d ∧ 1 ≤ d)) ∨ (g.2.1.1 = 3 ∧ ∃ d, ab_dl h f (g.2.1.2.1, 4 * g.2.1.2.2.1, 4 * g.2.1.2.2.2) = some d ∧ 0 ≤ d)) := by
  induction fs with
  | nil => cases hg
  | cons q l ih =>
    unfold ab_kc at hg
    cases hc : (Nat.beq q.2.1.1 (nat_lit 0) || (Nat.beq q.2.1.1 (nat_lit 2) || ((match ee_nth h.2.2.1 q.1 with
      | some κ' => !Nat.beq κ' κ
      | none => false) || ((Nat.beq q.2.1.1 (nat_lit 1) && ((match ab_dl h f q.2.1.2 with
        | some d => decide (1 ≤ d)
        | none => false) || (match ab_dl h q.2.1.2 f2 with
        | some d => decide (1 ≤ d)
        | none => false))) || (Nat.beq q.2.1.1 (nat_lit 3) && (match ab_dl h f (q.2.1.2.1, 4 * q.2.1.2.2.1, 4 * q.2.1.2.2.2) with
        | some d => decide (0 ≤ d)
        | none => false)))))) with
    | false =>
      rw [ee_cf hc] at hg
      exact ⟨List.mem_cons_of_mem _ (ih hg).1, (ih hg).2⟩
    | true =>
      rw [ee_ct hc] at hg
      rcases List.mem_cons.mp hg with rfl | hg
      · refine ⟨List.mem_cons_self, ?_⟩
        rw [Bool.or_eq_true, Bool.or_eq_true, Bool.or_eq_true, Bool.or_eq_true, Bool.and_eq_true, Bool.and_eq_true, Bool.or_eq_true] at hc
        rcases hc with hc | hc | hc | ⟨hc, hc2⟩ | ⟨hc, hc2⟩
        · exact Or.inl (Nat.eq_of_beq_eq_true hc)
        · exact Or.inr (Or.inl (Nat.eq_of_beq_eq_true hc))
        · split at hc
          · rename_i κ' hκ'
            rw [ee_nth_eq] at hκ'
            exact Or.inr (Or.inr (Or.inl ⟨κ', hκ', fun z9 => by rw [z9, Nat.beq_refl] at hc; cases hc⟩))
          · cases hc
        · refine Or.inr (Or.inr (Or.inr (Or.inl ⟨Nat.eq_of_beq_eq_true hc, ?_⟩)))
          rcases hc2 with hc2 | hc2
          · split at hc2
            · rename_i d hd
              exact Or.inl ⟨d, hd, by simpa using hc2⟩
            · cases hc2
          · split at hc2
            · rename_i d hd
              exact Or.inr ⟨d, hd, by simpa using hc2⟩
            · cases hc2
        · refine Or.inr (Or.inr (Or.inr (Or.inr ⟨Nat.eq_of_beq_eq_true hc, ?_⟩)))
          split at hc2
          · rename_i d hd
            exact ⟨d, hd, by simpa using hc2⟩
          · cases hc2
      · exact ⟨List.mem_cons_of_mem _ (ih hg).1, (ih hg).2⟩
/-- what is known of the copied elements -/
def ab_kn (fs : List ab_F) (i j : Nat) (dp : ab_L) (sp : Int) : Nat → Int → List ab_F
  | 0, _ => []
  | n + 1, k => ab_g k fun k => ab_g (sp + k) fun sk => ab_g (dp.2.2 + k) fun dk => match ab_ff fs i (nat_lit 1, nat_lit 0, 0, sk) with
    | some a => (j, (nat_lit 1, dp.1, dp.2.1, dk), a) :: ab_kn fs i j dp sp n (k + 1)
    | none => ab_kn fs i j dp sp n (k + 1)
theorem ab_kn_in {fs : List ab_F} {i j : Nat} {dp : ab_L} {sp : Int} : ∀ {n : Nat} {k : Int} {g : ab_F}, g ∈ ab_kn fs i j dp sp n k → ∃ (m : Nat) (a : ab_A), m < n ∧ ab_ff fs i (1, 0, 0, sp + (k + (m : Int))) = some a ∧ g = (j, (1, dp.1, dp.2.1, dp.2.2 + (k + (m : Int))), a)
  | 0, _, _, hg => by cases hg
  | n + 1, k, g, hg => by
    unfold ab_kn at hg
    rw [ab_g_eq, ab_g_eq, ab_g_eq] at hg
    have tail : g ∈ ab_kn fs i j dp sp n (k + 1) → ∃ (m : Nat) (a : ab_A), m < n + 1 ∧ ab_ff fs i (1, 0, 0, sp + (k + (m : Int))) = some a ∧ g = (j, (1, dp.1, dp.2.1, dp.2.2 + (k + (m : Int))), a) := fun h => by
      obtain ⟨m, a, m1, m2, m3⟩ := ab_kn_in h
      refine ⟨m + 1, a, by omega, ?_, ?_⟩
      · rw [show k + ((m + 1 : Nat) : Int) = k + 1 + (m : Int) by omega]; exact m2
      · rw [show k + ((m + 1 : Nat) : Int) = k + 1 + (m : Int) by omega]; exact m3
    split at hg
    · rename_i a ha
      rcases List.mem_cons.mp hg with rfl | hg
      · exact ⟨0, a, by omega, by rw [show k + ((0 : Nat) : Int) = k by omega]; exact ha, by rw [show k + ((0 : Nat) : Int) = k by omega]⟩
      · exact tail hg
    · exact tail hg
/-- the callee's type is inside -/
def ab_tyin (s t : ab_T) : Bool := match s, t with
  | .inl p, .inl q => decide (q.1 ≤ p.1) && decide (p.2 ≤ q.2)
  | _, _ => false
def ab_nc3 (κ : Nat) : Bool := ab_nc κ && (!Nat.beq κ (nat_lit 17) && !Nat.beq κ (nat_lit 37))
def ab_tyx (s t : ab_T) : Bool := match t with
  | .inr (.inr _) => (match s with
    | .inl _ => true
    | _ => false)
  | _ => ab_tyin s t
/-- the end of a stretch is inside a row of at least mn places, or not above a length that is known -/
def ab_upto (h : ab_H) (i : Nat) (mn : Int) (f : ab_L) : Bool := match ab_bd h.1 f with
  | some p => decide (p.2 ≤ mn) || (match ab_ff h.2.2.2.1 i (nat_lit 2, nat_lit 0, 0, 0) with
      | some (.inl g) => (match ab_dl h g f with
        | some d => decide (0 ≤ d)
        | none => false)
      | _ => false)
  | none => false
/-- one behind the last place -/
def ab_cend (cn dp : ab_L) : ab_L := bif decide (cn.2.1 = 0) then ab_g (dp.2.2 + cn.2.2) (fun o => (dp.1, dp.2.1, o)) else ab_g (cn.2.2 + dp.2.2) (fun o => (cn.1, cn.2.1, o))
/-- rows of lines that are copied whole -/
def ab_k3 (h : ab_H) (i j : Nat) (cn : ab_L) : List ab_F → List ab_F
  | [] => []
  | g :: fs => bif (Nat.beq g.1 i && Nat.beq g.2.1.1 (nat_lit 3)) && (match ab_dl h cn (g.2.1.2.1, 4 * g.2.1.2.2.1, 4 * g.2.1.2.2.2) with
        | some d => decide (0 ≤ d)
        | none => false) then (j, g.2.1, g.2.2) :: ab_k3 h i j cn fs else ab_k3 h i j cn fs
theorem ab_k3_in {h : ab_H} {i j : Nat} {cn : ab_L} {fs : List ab_F} {g : ab_F} (hg : g ∈ ab_k3 h i j cn fs) : ∃ (k : ab_L) (a : ab_A) (d : Int), (i, (3, k), a) ∈ fs ∧ ab_dl h cn (k.1, 4 * k.2.1, 4 * k.2.2) = some d ∧ 0 ≤ d ∧ g = (j, (3, k), a) := by
  induction fs with
  | nil => cases hg
  | cons q l ih =>
    unfold ab_k3 at hg
    cases hc : ((Nat.beq q.1 i && Nat.beq q.2.1.1 (nat_lit 3)) && (match ab_dl h cn (q.2.1.2.1, 4 * q.2.1.2.2.1, 4 * q.2.1.2.2.2) with
        | some d => decide (0 ≤ d)
        | none => false)) with
    | false =>
      rw [ee_cf hc] at hg
      obtain ⟨k, a, d, h1, h2⟩ := ih hg
      exact ⟨k, a, d, List.mem_cons_of_mem _ h1, h2⟩
    | true =>
      rw [ee_ct hc] at hg
      rcases List.mem_cons.mp hg with rfl | hg
      · rw [Bool.and_eq_true, Bool.and_eq_true] at hc
        obtain ⟨⟨c1, c2⟩, c3⟩ := hc
        obtain ⟨q1, ⟨t1, k1⟩, a1⟩ := q
        have e1 : q1 = i := Nat.eq_of_beq_eq_true c1
        have e2 : t1 = 3 := Nat.eq_of_beq_eq_true c2
        subst e1; subst e2
        split at c3
        · rename_i d hd
          exact ⟨k1, a1, d, List.mem_cons_self, hd, by simpa using c3, rfl⟩
        · cases c3
      · obtain ⟨k, a, d, h1, h2⟩ := ih hg
        exact ⟨k, a, d, List.mem_cons_of_mem _ h1, h2⟩
def ab_o43 (wk : Nat → Bool) (n : Nat) : ab_S → Option (List ab_S)
  | (pc, lo, .inl cn :: .inl dp :: .inr (.inl (zd + 1)) :: .inl (_, ms, sp) :: .inr (.inl (zs + 1)) :: st, h, r) => match ab_bd h.1 cn with
    | some pn => bif (Nat.beq (Nat.mod zd (nat_lit 2)) (nat_lit 0) && Nat.beq (Nat.mod zs (nat_lit 2)) (nat_lit 0)) && (((decide (cn.2.1 = 0) || decide (dp.2.1 = 0)) && decide (ms = 0)) && (decide (0 ≤ pn.1) && (decide (pn.2 ≤ 2097152) && decide (0 ≤ sp)))) then (ee_f (Nat.div zd (nat_lit 2)) fun j => ee_f (Nat.div zs (nat_lit 2)) fun i => match ee_nth h.2.2.1 i, ee_nth h.2.2.1 j with
      | some κs, some κd => (match ab_ka κs, ab_ka κd with
        | some qs, some qd => bif (Nat.beq qs.1 (nat_lit 0) && Nat.beq qd.1 (nat_lit 0)) && (((ab_nc3 κd && !Nat.beq κs (nat_lit 37)) && (wk κd && ab_tyx (ab_ke κs (nat_lit 0)) (ab_ke κd (nat_lit 0)))) && ((ab_upto h i qs.2.1 (cn.1, cn.2.1, cn.2.2 + sp) && ab_upto h j qd.2.1 (ab_cend cn dp)) && ((match ab_bd h.1 dp with
            | some p => decide (0 ≤ p.1)
            | none => false) && Nat.ble (ab_cat st) (nat_lit 8)))) then ab_g ((ab_cend cn dp).2.2 + -1) (fun o2 => some [(Nat.add pc n, lo, st, (h.1, h.2.1, h.2.2.1, ab_app (bif decide (pn.1 = pn.2) && decide (pn.1 ≤ 4) then ab_kn h.2.2.2.1 i j dp sp pn.1.toNat 0 else []) (ab_app (bif decide (sp = 0) && (decide (dp.2.1 = 0) && decide (dp.2.2 = 0)) then ab_k3 h i j cn h.2.2.2.1 else []) (ab_kc h κd dp ((ab_cend cn dp).1, (ab_cend cn dp).2.1, o2) h.2.2.2.1)), h.2.2.2.2), r)]) else none
        | _, _ => none)
      | _, _ => none) else none
    | none => none
  | _ => none
section CP
variable {cls : Nat → List ab_Cl} {dA : Nat → ClassId} {xa : List Nat} {ks : List Nat} {ws : va_W} {rv : List Int} {sv : List (Nat × Nat)} {h : ab_H}
theorem ab_CL_nc {A : Nat → Prop} {dt : List (Nat × ab_Key)} (hCL : ab_CL cls ks ws rv sv dt) (hok : ab_cok cls) (hT : ab_TW dA ks ws) (hD : va_D A ws) {kk ax κ N : Nat} {cA : ClassId} {c1 c2 : (Nat → Int32) ⊕ ((Nat → Int64) ⊕ ((Nat → UInt32) ⊕ ((Nat → UInt64) ⊕ (Nat → Option Nat))))}
    (hk : ws[kk]? = some (ax, .inl (cA, N, c1))) (hκ : ks[kk]? = some κ) (him : κ ≠ 17) (hn : cls κ = []) : ab_CL cls ks (ws.set kk (ax, .inl (cA, N, c2))) rv sv dt := by
  intro k9 κ9 a9 e9 g1 g2 cc hc hp
  have hlt := (List.getElem?_eq_some_iff.mp hk).1
  have har : ∀ (vs : List Value) (aa : Nat), (vs[aa]? = some (.ref ax) ∧ ab_ar (ws.set kk (ax, .inl (cA, N, c2))) vs aa = some (ax, .inl (cA, N, c2)) ∧ ab_ar ws vs aa = some (ax, .inl (cA, N, c1))) ∨ ab_ar (ws.set kk (ax, .inl (cA, N, c2))) vs aa = ab_ar ws vs aa := by
    intro vs aa
    unfold ab_ar
    split
    · rename_i q9 hq9
      rcases ab_find_set (yy := (ax, .inl (cA, N, c2))) hk rfl q9 with h9 | ⟨h8, h9⟩
      · exact Or.inr h9
      · have h7 := List.find?_some h8
        have h6 : ax = q9 := by simpa using h7
        subst h6
        exact Or.inl ⟨hq9, h9, h8⟩
    · exact Or.inr rfl
  by_cases hkk : k9 = kk
  · subst hkk
    rw [hκ] at g1
    cases g1
    rw [hn] at hc
    cases hc
  · rw [List.getElem?_set_ne (fun z9 => hkk z9.symm)] at g2
    refine ab_hd_same2 (fun rr hr => ?_) (hCL k9 κ9 a9 e9 g1 g2 cc hc hp)
    obtain ⟨t1, t2, t3, t4⟩ := rr
    match t1, e9, g2, hr with
    | 0, _, _, hr => exact ab_cr_nows (Or.inl rfl)
    | 1, _, _, hr => exact ab_cr_nows (Or.inr (Or.inl rfl))
    | 4, _, _, hr => exact ab_cr_nows (Or.inr (Or.inr rfl))
    | 2, .inl z9, _, hr => rw [ab_cr_arr (show (2 : Nat) ≠ 1 ∧ (2 : Nat) ≠ 4 by decide), ab_cr_arr (show (2 : Nat) ≠ 1 ∧ (2 : Nat) ≠ 4 by decide)]
    | 2, .inr (ci, vs), g2, hr =>
      show (match ab_ar (ws.set kk (ax, .inl (cA, N, c2))) vs t2 with
        | some (_, .inl (_, n, _)) => some (n : Int)
        | _ => none) = (match ab_ar ws vs t2 with
        | some (_, .inl (_, n, _)) => some (n : Int)
        | _ => none)
      rcases har vs t2 with ⟨-, h8, h9⟩ | h9
      · rw [h8, h9]
      · rw [h9]
    | 3, .inl z9, _, hr => rw [ab_cr_arr (show (3 : Nat) ≠ 1 ∧ (3 : Nat) ≠ 4 by decide), ab_cr_arr (show (3 : Nat) ≠ 1 ∧ (3 : Nat) ≠ 4 by decide)]
    | 3, .inr (ci, vs), g2, hr =>
      show (match ab_ar (ws.set kk (ax, .inl (cA, N, c2))) vs t2, ab_fi vs t3 with
        | some (_, .inl (_, n, .inl f)), some x => if 0 ≤ x ∧ 4 * x + (t4 : Int) < (n : Int) then some (f (4 * x + t4).toNat).toInt else none
        | _, _ => none) = (match ab_ar ws vs t2, ab_fi vs t3 with
        | some (_, .inl (_, n, .inl f)), some x => if 0 ≤ x ∧ 4 * x + (t4 : Int) < (n : Int) then some (f (4 * x + t4).toNat).toInt else none
        | _, _ => none)
      rcases har vs t2 with ⟨h7, h8, h9⟩ | h9
      · exfalso
        obtain ⟨ci9, ts9, mm, o1, o2, o3⟩ := (hok κ9 cc hc _ hr).1 rfl
        obtain ⟨a8, e8, w1, w2⟩ := hT.2 k9 κ9 g1
        rw [g2] at w1
        cases w1
        obtain ⟨vs8, x1, x2, x3⟩ := w2.1 _ _ o1
        cases x1
        obtain ⟨v8, y1, y2⟩ := x3 _ _ o2
        have y1' : vs[t2]? = some v8 := y1
        rw [h7] at y1'
        cases y1'
        rcases y2 with ⟨k7, a7, z1, z2, z3⟩ | ⟨-, z3⟩
        · cases z3
          rw [List.getElem?_map] at z2
          cases hw7 : ws[k7]? with
          | none => rw [hw7] at z2; cases z2
          | some q7 =>
            rw [hw7] at z2
            have e7 : q7.1 = ax := Option.some.inj z2
            have hk7 : k7 = kk := hD.1 k7 kk q7 _ hw7 hk e7
            subst hk7
            rw [hκ] at z1
            exact him ((Option.some.inj z1).trans o3)
        · cases z3
      · rw [h9]
    | t1 + 5, .inl z9, _, hr => rw [ab_cr_arr (show t1 + 5 ≠ 1 ∧ t1 + 5 ≠ 4 by omega), ab_cr_arr (show t1 + 5 ≠ 1 ∧ t1 + 5 ≠ 4 by omega)]
    | t1 + 5, .inr (ci, vs), _, hr => rfl
end CP
theorem ab_out {a b i : Int} (h0 : 0 ≤ i) (ha : 0 ≤ a) (hb : 0 ≤ b) (h : ¬ (a ≤ i ∧ i < a + b)) : ¬ (a.toNat ≤ i.toNat ∧ i.toNat < a.toNat + b.toNat) := by omega
section CPH
variable {cls : Nat → List ab_Cl} {dA : Nat → ClassId} {xa : List Nat} {ks : List Nat} {ws : va_W} {rv : List Int} {sv : List (Nat × Nat)} {h : ab_H}
theorem ab_ev_add {f : ab_L} {x c0 : Int} (hx : ab_ev rv f = some x) : ab_ev rv (f.1, f.2.1, f.2.2 + c0) = some (x + c0) := by
  unfold ab_ev at hx ⊢
  by_cases h0 : f.2.1 = 0
  · rw [if_pos h0] at hx
    rw [if_pos h0]
    rw [← Option.some.inj hx]
  · rw [if_neg h0] at hx
    rw [if_neg h0]
    cases hz : rv[f.1]? with
    | none => rw [hz] at hx; cases hx
    | some z =>
      rw [hz] at hx
      have e1 : f.2.1 * z + f.2.2 = x := Option.some.inj hx
      show some (f.2.1 * z + (f.2.2 + c0)) = _
      rw [← e1, Int.add_assoc]
/-- an index that is inside, as a number -/
theorem ab_inb_lt (hG : ab_G cls dA xa ks ws rv sv h) {i : Nat} {mn : Int} {f : ab_L} (hi : ab_inb h i mn f = true) {x : Int} (hx : ab_ev rv f = some x) {q : Nat × Nat} {cA : ClassId} {nn : Nat} {ct9 : (Nat → Int32) ⊕ ((Nat → Int64) ⊕ ((Nat → UInt32) ⊕ ((Nat → UInt64) ⊕ (Nat → Option Nat))))} (hq : sv[i]? = some q) (hw : ws[q.1]? = some (q.2, .inl (cA, nn, ct9))) (hmn : mn ≤ (nn : Int)) : x < (nn : Int) := by
  unfold ab_inb at hi
  split at hi
  · rename_i p9 hp9
    have b9 := ab_bd_in hG.1 hp9 hx
    rw [Bool.and_eq_true, Bool.or_eq_true, decide_eq_true_eq, decide_eq_true_eq] at hi
    rcases hi.2 with h9 | h9
    · omega
    · split at h9
      · rename_i g9 hg9
        split at h9
        · rename_i dd hdd
          obtain ⟨qf, ef, ii, vf, f1, f2, f3, f4, xg, rfl, hxg⟩ := hG.2.2.2.1 _ (ab_ff_in hg9)
          have f1' : sv[i]? = some qf := f1
          rw [hq] at f1'
          have e9 : q = qf := Option.some.inj f1'
          subst e9
          rw [hw] at f2
          cases f2
          have f4' : (if nn < 2147483648 then some (Value.int (Int32.ofNat nn)) else none) = some (.int xg) := f4
          have d9 := ab_dl_in hG.1 hG.2.1 hxg hx hdd
          rw [decide_eq_true_eq] at h9
          by_cases hn : nn < 2147483648
          · rw [if_pos hn] at f4'
            cases f4'
            have e7 : (Int32.ofNat nn).toInt = (nn : Int) := nI_toInt (n := nn) (by omega)
            omega
          · rw [if_neg hn] at f4'
            cases f4'
        · cases h9
      · cases h9
  · cases hi
theorem ab_upto_le (hG : ab_G cls dA xa ks ws rv sv h) {i : Nat} {mn : Int} {f : ab_L} (hi : ab_upto h i mn f = true) {x : Int} (hx : ab_ev rv f = some x) {q : Nat × Nat} {cA : ClassId} {nn : Nat} {ct9 : (Nat → Int32) ⊕ ((Nat → Int64) ⊕ ((Nat → UInt32) ⊕ ((Nat → UInt64) ⊕ (Nat → Option Nat))))} (hq : sv[i]? = some q) (hw : ws[q.1]? = some (q.2, .inl (cA, nn, ct9))) (hmn : mn ≤ (nn : Int)) : x ≤ (nn : Int) := by
  unfold ab_upto at hi
  split at hi
  · rename_i p9 hp9
    have b9 := ab_bd_in hG.1 hp9 hx
    rw [Bool.or_eq_true, decide_eq_true_eq] at hi
    rcases hi with h9 | h9
    · omega
    · split at h9
      · rename_i g9 hg9
        split at h9
        · rename_i dd hdd
          obtain ⟨qf, ef, ii, vf, f1, f2, f3, f4, xg, rfl, hxg⟩ := hG.2.2.2.1 _ (ab_ff_in hg9)
          have f1' : sv[i]? = some qf := f1
          rw [hq] at f1'
          have e9 : q = qf := Option.some.inj f1'
          subst e9
          rw [hw] at f2
          cases f2
          have f4' : (if nn < 2147483648 then some (Value.int (Int32.ofNat nn)) else none) = some (.int xg) := f4
          have d9 := ab_dl_in hG.1 hG.2.1 hxg hx hdd
          rw [decide_eq_true_eq] at h9
          by_cases hn : nn < 2147483648
          · rw [if_pos hn] at f4'
            cases f4'
            have e7 : (Int32.ofNat nn).toInt = (nn : Int) := nI_toInt (n := nn) (by omega)
            omega
          · rw [if_neg hn] at f4'
            cases f4'
        · cases h9
      · cases h9
  · cases hi
theorem ab_cend_ev {cn dp : ab_L} {xn xd : Int} (hn : ab_ev rv cn = some xn) (hd : ab_ev rv dp = some xd) (hc : cn.2.1 = 0 ∨ dp.2.1 = 0) : ab_ev rv (ab_cend cn dp) = some (xd + xn) := by
  unfold ab_cend
  by_cases h0 : cn.2.1 = 0
  · rw [ee_ct (by simpa using h0), ab_g_eq]
    rw [ab_ev0 h0] at hn
    rw [← Option.some.inj hn]
    exact ab_ev_add hd
  · rw [ee_cf (by simpa using h0), ab_g_eq]
    have h1 : dp.2.1 = 0 := hc.resolve_left h0
    rw [ab_ev0 h1] at hd
    have h9 := ab_ev_add (c0 := dp.2.2) hn
    have h8 : dp.2.2 = xd := Option.some.inj hd
    have h7 : xd + xn = xn + dp.2.2 := by omega
    rw [h7]
    exact h9
end CPH
section CP2
variable {cls : Nat → List ab_Cl} {p : Program} {l : Launch} {e : Env} {R : Room} {s : State} {m : MethodId} {args : Array Value} {below : List Frame} {meth : Method} {c : Code} {Q : State → Prop} {D : va_G} {dA : Nat → ClassId} {xa : List Nat} {xt : ee_X} {B : Nat} {rv0 : List Int} {sv0 : ab_B} {y : Nat}
variable {pc a b n d : Nat} {r : List ab_A × List ab_A × ab_H × Nat × Nat} {L : List ab_S}
theorem ab_int_cell {ks : List Nat} {ws : va_W} {rv : List Int} {sv : List (Nat × Nat)} {h : ab_H} (hG : ab_G cls dA xa ks ws rv sv h) {i κ : Nat} {q : Nat × Int × Int} (hκ : h.2.2.1[i]? = some κ) (hka : ab_ka κ = some q) (h0 : q.1 = 0) : ∃ (w : Nat × Nat) (N : Nat) (f : Nat → Int32), sv[i]? = some w ∧ ks[w.1]? = some κ ∧ ws[w.1]? = some (w.2, .inl (dA 0, N, .inl f)) ∧ q.2.1 ≤ (N : Int) ∧ (N : Int) ≤ q.2.2 ∧ (∀ j, j < N → ab_tv ks (ws.map (·.1)) (.int (f j)) (ab_ke κ j)) ∧ ab_cell dA ks (ws.map (·.1)) κ (.inl (dA 0, N, .inl f)) := by
  obtain ⟨w, e9, w1, w2, w3⟩ := hG.2.2.1.2 _ κ hκ
  obtain ⟨a9, e8, u1, u2⟩ := hG.2.2.2.2.1.2 _ κ w2
  rw [w3] at u1
  cases u1
  obtain ⟨q1, q2, q3⟩ := q
  have h0' : q1 = 0 := h0
  subst h0'
  rcases u2.2.1 _ _ _ hka with ⟨-, N, f, rfl, h5, h6, h7⟩ | ⟨h9, -⟩ | ⟨h9, -⟩
  · exact ⟨w, N, f, w1, w2, w3, h5, h6, h7, u2⟩
  · cases h9
  · omega
theorem as_43 (hR : d ≤ R.frames ∧ 40 * d ≤ R.locals) (hd0 : 0 < d) (hnc : ∀ κ, ab_nc κ = true → cls κ = []) (hcok : ab_cok cls) (hC : ee_C p s m args meth c D dA xa xt B y) (hs : ee_sc y pc (43, a, b, n) = true) (h : ab_o43 sv0.2.2.1 n (pc, r) = some L) (k : ∀ S ∈ L, ab_WS cls p l e R s m args below meth c Q D dA xa B rv0 sv0 y S) : ab_WS cls p l e R s m args below meth c Q D dA xa B rv0 sv0 y (pc, r) := by
  unfold ab_o43 at h
  split at h
  · rename_i pc' lo cn dp zd i1 ms sp zs st hh r' heq
    cases heq
    split at h
    case h_2 => cases h
    rename_i pn hpn
    cases hz : ((Nat.beq (Nat.mod zd (nat_lit 2)) (nat_lit 0) && Nat.beq (Nat.mod zs (nat_lit 2)) (nat_lit 0)) && (((decide (cn.2.1 = 0) || decide (dp.2.1 = 0)) && decide (ms = 0)) && (decide (0 ≤ pn.1) && (decide (pn.2 ≤ 2097152) && decide (0 ≤ sp))))) with
    | false => rw [ee_cf hz] at h; cases h
    | true =>
      rw [ee_ct hz, ee_f_eq, ee_f_eq] at h
      simp only [Bool.and_eq_true, Bool.or_eq_true, decide_eq_true_eq] at hz
      obtain ⟨⟨z1, z2⟩, ⟨z3, z4⟩, z5, z6, z7⟩ := hz
      split at h
      · rename_i κs κd hκs hκd
        split at h
        · rename_i qs qd hqs hqd
          cases hc : ((Nat.beq qs.1 (nat_lit 0) && Nat.beq qd.1 (nat_lit 0)) && (((ab_nc3 κd && !Nat.beq κs (nat_lit 37)) && (sv0.2.2.1 κd && ab_tyx (ab_ke κs (nat_lit 0)) (ab_ke κd (nat_lit 0)))) && ((ab_upto hh (Nat.div zs (nat_lit 2)) qs.2.1 (cn.1, cn.2.1, cn.2.2 + sp) && ab_upto hh (Nat.div zd (nat_lit 2)) qd.2.1 (ab_cend cn dp)) && ((match ab_bd hh.1 dp with
            | some p => decide (0 ≤ p.1)
            | none => false) && Nat.ble (ab_cat st) (nat_lit 8))))) with
          | false => rw [ee_cf hc] at h; cases h
          | true =>
            rw [ee_ct hc, ab_g_eq] at h
            cases h
            have k := k _ List.mem_cons_self
            simp only [Bool.and_eq_true] at hc
            obtain ⟨⟨c1, c2⟩, ⟨⟨c3, c4⟩, c5, c6⟩, ⟨c7, c8⟩, c9, c10⟩ := hc
            unfold ab_nc3 at c3
            simp only [Bool.and_eq_true] at c3
            obtain ⟨c31, c32, c33⟩ := c3
            have n17 : κd ≠ 17 := by rintro rfl; cases c32
            have n37 : κd ≠ 37 := by rintro rfl; cases c33
            have s37 : Nat.beq κs 37 = false := by
              cases h9 : Nat.beq κs 37 with
              | false => rfl
              | true => rw [show Nat.beq κs (nat_lit 37) = true from h9] at c4; cases c4
            have d37 : Nat.beq κd 37 = false := ee_bn n37
            rw [ee_nth_eq] at hκs hκd
            intro ks ws rv sv H locs ls vs hr0 hs0 hG hP hD hS hl hv
            match vs, hv with
            | v1 :: v2 :: v3 :: v4 :: v5 :: vs, ⟨⟨xn, e1, hxn⟩, ⟨xd, e2, hxd⟩, hok3, ⟨xs, e4, hxs⟩, hok5, hvt⟩ =>
              subst e1; subst e2; subst e4
              obtain ⟨wd, hwd1, rfl⟩ := ab_nnul z1 hok3
              obtain ⟨wss, hws1, rfl⟩ := ab_nnul z2 hok5
              obtain ⟨wd', Nd, fd, y1, y2, y3, y4, y5, y6, y7⟩ := ab_int_cell hG hκd hqd (Nat.eq_of_beq_eq_true c2)
              have ew : wd = wd' := by
                have h9 : sv[zd / 2]? = some wd' := y1
                rw [hwd1] at h9
                exact Option.some.inj h9
              subst ew
              obtain ⟨ws', Ns, fs, x1, x2, x3, x4, x5, x6, x7⟩ := ab_int_cell hG hκs hqs (Nat.eq_of_beq_eq_true c1)
              have ew2 : wss = ws' := by
                have h9 : sv[zs / 2]? = some ws' := x1
                rw [hws1] at h9
                exact Option.some.inj h9
              subst ew2
              have bn := ab_bd_in hG.1 hpn hxn
              rw [ab_ev0 (f := (i1, ms, sp)) z4] at hxs
              have esp : sp = xs.toInt := Option.some.inj hxs
              have hd0' : 0 ≤ xd.toInt := by
                split at c9
                · rename_i p9 hp9
                  have b9 := ab_bd_in hG.1 hp9 hxd
                  rw [decide_eq_true_eq] at c9
                  omega
                · cases c9
              -- the last places are inside
              have hs9 : xs.toInt + xn.toInt ≤ (Ns : Int) := by
                have i9 := ab_upto_le hG c7 (x := xn.toInt + sp) (ab_ev_add hxn) x1 x3 x4
                omega
              have hd9 : xd.toInt + xn.toInt ≤ (Nd : Int) := ab_upto_le hG c8 (ab_cend_ev hxn hxd z3) y1 y3 y4
              have hend : ab_ev rv ((ab_cend cn dp).1, (ab_cend cn dp).2.1, (ab_cend cn dp).2.2 + -1) = some (xd.toInt + xn.toInt + -1) := ab_ev_add (ab_cend_ev hxn hxd z3)
              have hsz : ls.size = ee_ml y := by
                obtain ⟨-, lv, hlv, -⟩ := hl
                exact hlv.1
              have nn1 : ¬ xs < 0 := by
                rw [Int32.lt_iff_toInt_lt]
                have e9 : (0 : Int32).toInt = 0 := rfl
                omega
              have nn2 : ¬ xd < 0 := by
                rw [Int32.lt_iff_toInt_lt]
                have e9 : (0 : Int32).toInt = 0 := rfl
                omega
              have nn3 : ¬ xn < 0 := by
                rw [Int32.lt_iff_toInt_lt]
                have e9 : (0 : Int32).toInt = 0 := rfl
                omega
              have cs1 : xs.toNatClampNeg = xs.toInt.toNat := rfl
              have cd1 : xd.toNatClampNeg = xd.toInt.toNat := rfl
              have cn1 : xn.toNatClampNeg = xn.toInt.toNat := rfl
              have hlt := (List.getElem?_eq_some_iff.mp y3).1
              refine sm_43 hR hd0 hC hs hsz (Nat.le_trans (ab_cat_le hvt) (Nat.le_of_ble_eq_true c10)) hP hD hS x3 y3 nn1 nn2 nn3 (by rw [cs1, cn1]; omega) (by rw [cd1, cn1]; omega) (fun H1 locs1 hP1 hD1 hS1 => ?_)
              rw [cs1, cd1, cn1] at hP1 hD1
              rw [← ab_ph_st (ke := sv0.2.2.2.1) (ks := ks) (c2 := .inl (va_cpy fs fd xs.toInt.toNat xd.toInt.toNat xn.toInt.toNat)) y3]
              have hcell : ab_cell dA ks (ws.map (·.1)) κd (.inl (dA 0, Nd, .inl (va_cpy fs fd xs.toInt.toNat xd.toInt.toNat xn.toInt.toNat))) := by
                refine ⟨fun ci ts h9 => ?_, fun t9 lo9 hi9 h9 => ?_, ab_c3_no n17 n37⟩
                · obtain ⟨vs9, x1, -⟩ := y7.1 ci ts h9
                  cases x1
                · rw [hqd] at h9
                  cases h9
                  have ht9 : t9 = 0 := Nat.eq_of_beq_eq_true c2
                  subst ht9
                  refine Or.inl ⟨Or.inl rfl, Nd, _, rfl, y4, y5, fun j hj => ?_⟩
                  unfold va_cpy
                  by_cases hin : xd.toInt.toNat ≤ j ∧ j < xd.toInt.toNat + xn.toInt.toNat
                  · rw [if_pos hin]
                    have h9 := x6 (xs.toInt.toNat + (j - xd.toInt.toNat)) (by omega)
                    rw [ab_ke_u s37] at h9
                    rw [ab_ke_u d37]
                    unfold ab_tyx at c6
                    split at c6
                    · rename_i zz hzz
                      rw [show ab_ke κd 0 = .inr (.inr zz) from hzz]
                      exact Or.inr (Or.inr ⟨_, rfl⟩)
                    · unfold ab_tyin at c6
                      split at c6
                      · rename_i pp qq hp9 hq9
                        rw [Bool.and_eq_true, decide_eq_true_eq, decide_eq_true_eq] at c6
                        rw [show ab_ke κs 0 = .inl pp from hp9] at h9
                        rw [show ab_ke κd 0 = .inl qq from hq9]
                        exact ab_tv_wide c6.1 c6.2 h9
                      · cases c6
                  · rw [if_neg hin]
                    exact y6 j hj
              refine k ks _ rv sv H1 locs1 ls vs hr0 (ab_px_set hs0 y3 y2 c5 (ab_sm_no n37) (ab_ph_st y3)) ⟨hG.1, hG.2.1, ab_Kn_set hG.2.2.1 y3, fun g hg => ?_, ab_TW_arr hG.2.2.2.2.1 y3 y2 hcell, ab_CL_nc hG.2.2.2.2.2 hcok hG.2.2.2.2.1 hD y3 y2 n17 (hnc κd c31)⟩ hP1 hD1 hS1 hl hvt
              dsimp only at hg
              rw [ab_app_eq, ab_app_eq] at hg
              rcases List.mem_append.mp hg with hg | hg
              · cases hc4 : (decide (pn.1 = pn.2) && decide (pn.1 ≤ 4)) with
                | false => rw [ee_cf hc4] at hg; cases hg
                | true =>
                  rw [ee_ct hc4] at hg
                  rw [Bool.and_eq_true, decide_eq_true_eq, decide_eq_true_eq] at hc4
                  obtain ⟨mm, aa, m1, m2, rfl⟩ := ab_kn_in hg
                  obtain ⟨qf, ef, ii, vf, f1, f2, f3, f4, f5⟩ := hG.2.2.2.1 _ (ab_ff_in m2)
                  have f1' : sv[zs / 2]? = some qf := f1
                  rw [hws1] at f1'
                  have e9 : wss = qf := Option.some.inj f1'
                  subst e9
                  rw [x3] at f2
                  cases f2
                  have f3' : ab_ev rv (0, 0, sp + (0 + (mm : Int))) = some ii := f3
                  rw [ab_ev0 rfl] at f3'
                  have e8 : sp + (0 + (mm : Int)) = ii := Option.some.inj f3'
                  have f4' : (if 0 ≤ ii ∧ ii < (Ns : Int) then some (Value.int (fs ii.toNat)) else none) = some vf := f4
                  rw [if_pos ⟨by omega, by omega⟩] at f4'
                  refine ⟨wd, _, xd.toInt + (mm : Int), vf, hwd1, by rw [List.getElem?_set_self hlt], ?_, ?_, f5⟩
                  · show ab_ev rv (dp.1, dp.2.1, dp.2.2 + (0 + (mm : Int))) = _
                    rw [ab_ev_add hxd]
                    congr 1
                    omega
                  · show (if 0 ≤ xd.toInt + (mm : Int) ∧ xd.toInt + (mm : Int) < (Nd : Int) then some (Value.int (va_cpy fs fd xs.toInt.toNat xd.toInt.toNat xn.toInt.toNat (xd.toInt + (mm : Int)).toNat)) else none) = some vf
                    rw [if_pos ⟨by omega, by omega⟩, ← f4']
                    unfold va_cpy
                    rw [if_pos ⟨by omega, by omega⟩]
                    congr 3
                    omega
              rcases List.mem_append.mp hg with hg | hg
              · cases hc4 : (decide (sp = 0) && (decide (dp.2.1 = 0) && decide (dp.2.2 = 0))) with
                | false => rw [ee_cf hc4] at hg; cases hg
                | true =>
                  rw [ee_ct hc4] at hg
                  rw [Bool.and_eq_true, Bool.and_eq_true, decide_eq_true_eq, decide_eq_true_eq, decide_eq_true_eq] at hc4
                  obtain ⟨k3, a3, d3, m1, m2, m3, rfl⟩ := ab_k3_in hg
                  obtain ⟨qf, ef, ii, vf, f1, f2, f3, f4, f5⟩ := hG.2.2.2.1 _ m1
                  have f1' : sv[zs / 2]? = some qf := f1
                  rw [hws1] at f1'
                  have e9 : wss = qf := Option.some.inj f1'
                  subst e9
                  rw [x3] at f2
                  cases f2
                  have f3' : ab_ev rv k3 = some ii := f3
                  obtain ⟨⟨cA9, n9, g9, e9, h9⟩, f4'⟩ := ab_rd_q2 (t := 0) f4
                  cases e9
                  have d9 := ab_dl_in hG.1 hG.2.1 hxn (ab_ev_mul4 f3') m2
                  have exd : xd.toInt = 0 := by
                    rw [ab_ev0 hc4.2.1] at hxd
                    rw [← Option.some.inj hxd]
                    exact hc4.2.2
                  refine ⟨wd, _, ii, vf, hwd1, by rw [List.getElem?_set_self hlt], f3, ?_, f5⟩
                  rw [f4']
                  refine ab_rd_q (t := 0) ⟨_, _, _, rfl, fun l9 hl9 => ?_⟩
                  obtain ⟨g1, g2⟩ := h9 l9 hl9
                  have hcp : ∀ j9 : Nat, j9 < 4 * l9 + 4 → va_cpy fs fd xs.toInt.toNat xd.toInt.toNat xn.toInt.toNat j9 = fs j9 := fun j9 hj9 => by
                    unfold va_cpy
                    rw [if_pos (by omega)]
                    congr 1
                    omega
                  refine ⟨by omega, ?_⟩
                  unfold ab_row6 at g2 ⊢
                  rw [hcp (4 * l9) (by omega), hcp (4 * l9 + 1) (by omega), hcp (4 * l9 + 2) (by omega), hcp (4 * l9 + 3) (by omega)]
                  exact g2
              · obtain ⟨hm, hor⟩ := ab_kc_in hg
                refine ab_fact_set y3 (hG.2.2.2.1 g hm) (fun ii hsv hi => ?_)
                obtain ⟨gi, ⟨gt, gk⟩, ga⟩ := g
                dsimp only at hor hsv hi ⊢
                rcases hor with h9 | h9 | ⟨κ', h9, h8⟩ | ⟨h9, h8⟩ | ⟨h9, dd, h8, h7⟩
                · subst h9; rfl
                · subst h9; rfl
                · exfalso
                  obtain ⟨q7, e7, w1, w2, w3⟩ := hG.2.2.1.2 _ κ' h9
                  rw [hsv] at w1
                  cases w1
                  rw [y2] at w2
                  exact h8 (Option.some.inj w2).symm
                · subst h9
                  have hi' : ab_ev rv gk = some ii := hi
                  have hne : ¬ (xd.toInt ≤ ii ∧ ii < xd.toInt + xn.toInt) := by
                    rcases h8 with ⟨dd, h8, h7⟩ | ⟨dd, h8, h7⟩
                    · have d9 := ab_dl_in hG.1 hG.2.1 hxd hi' h8
                      omega
                    · have d9 := ab_dl_in hG.1 hG.2.1 hi' hend h8
                      omega
                  show (if 0 ≤ ii ∧ ii < (Nd : Int) then some (Value.int (va_cpy fs fd xs.toInt.toNat xd.toInt.toNat xn.toInt.toNat ii.toNat)) else none) = (if 0 ≤ ii ∧ ii < (Nd : Int) then some (Value.int (fd ii.toNat)) else none)
                  by_cases hin : 0 ≤ ii ∧ ii < (Nd : Int)
                  · rw [if_pos hin, if_pos hin]
                    unfold va_cpy
                    rw [if_neg (ab_out hin.1 hd0' (by omega) hne)]
                  · rw [if_neg hin, if_neg hin]
                · subst h9
                  have hi' : ab_ev rv gk = some ii := hi
                  have d9 := ab_dl_in hG.1 hG.2.1 hxd (ab_ev_mul4 hi') h8
                  have hne : ∀ j : Nat, (j : Int) < 4 * ii → va_cpy fs fd xs.toInt.toNat xd.toInt.toNat xn.toInt.toNat j = fd j := fun j hj => by
                    unfold va_cpy
                    rw [if_neg (by omega)]
                  have iff3 : ab_Pq 3 (.inl (dA 0, Nd, .inl (va_cpy fs fd xs.toInt.toNat xd.toInt.toNat xn.toInt.toNat))) ii ↔ ab_Pq 3 (.inl (dA 0, Nd, .inl fd)) ii := by
                    constructor
                    · rintro ⟨cA9, n9, f9, e9, h9⟩
                      cases e9
                      refine ⟨_, _, _, rfl, fun l9 hl9 => ?_⟩
                      obtain ⟨g1, g2⟩ := h9 l9 hl9
                      refine ⟨g1, ?_⟩
                      unfold ab_row6 at g2 ⊢
                      rw [hne (4 * l9) (by omega), hne (4 * l9 + 1) (by omega), hne (4 * l9 + 2) (by omega), hne (4 * l9 + 3) (by omega)] at g2
                      exact g2
                    · rintro ⟨cA9, n9, f9, e9, h9⟩
                      cases e9
                      refine ⟨_, _, _, rfl, fun l9 hl9 => ?_⟩
                      obtain ⟨g1, g2⟩ := h9 l9 hl9
                      refine ⟨g1, ?_⟩
                      unfold ab_row6 at g2 ⊢
                      rw [hne (4 * l9) (by omega), hne (4 * l9 + 1) (by omega), hne (4 * l9 + 2) (by omega), hne (4 * l9 + 3) (by omega)]
                      exact g2
                  by_cases hp3 : ab_Pq 3 (.inl (dA 0, Nd, .inl fd)) ii
                  · rw [ab_rd_q (t := 0) (iff3.mpr hp3), ab_rd_q (t := 0) hp3]
                  · have n1 : ∀ e9 : va_E, ¬ ab_Pq 3 e9 ii → ab_rd e9 3 ii = none := fun e9 hn9 => by
                      show @ite _ (ab_Pq 3 e9 ii) (Classical.propDecidable _) (some (Value.int 0)) none = none
                      rw [if_neg hn9]
                    rw [n1 _ hp3, n1 _ (fun h9 => hp3 (iff3.mp h9))]
        · cases h
      · cases h
  · cases h
end CP2
