/-! ===== more hints: words of whole rows ===== -/
def ab_map {α β : Type} (f : α → β) : List α → List β
  | [] => []
  | a :: l => f a :: ab_map f l
theorem ab_map_in {α β : Type} {f : α → β} {l : List α} {a : α} (h : a ∈ l) : f a ∈ ab_map f l := by
  induction l with
  | nil => cases h
  | cons b l ih =>
    rcases List.mem_cons.mp h with rfl | h
    · exact List.mem_cons_self
    · exact List.mem_cons_of_mem _ (ih h)
theorem ab_map_eq {α β : Type} {f : α → β} {l : List α} : ab_map f l = l.map f := by
  induction l with
  | nil => rfl
  | cons b l ih =>
    show f b :: ab_map f l = _
    rw [ih]
    rfl
theorem ab_bd_ev {rv : List Int} {iv : List (Int × Int)} (hI : ab_I rv iv) {f : ab_L} {p : Int × Int} (hb : ab_bd iv f = some p) : ∃ x, ab_ev rv f = some x ∧ p.1 ≤ x ∧ x ≤ p.2 := by
  have hb' := hb
  unfold ab_bd at hb'
  by_cases h0 : f.2.1 = 0
  · exact ⟨_, ab_ev0 h0, ab_bd_in hI hb (ab_ev0 h0)⟩
  · rw [ee_cf (by simpa using h0)] at hb'
    split at hb'
    · rename_i w9 hw9
      rw [ee_nth_eq] at hw9
      obtain ⟨z, z1, -⟩ := hI.2 _ _ hw9
      have hev : ab_ev rv f = some (f.2.1 * z + f.2.2) := by
        unfold ab_ev
        rw [if_neg h0, z1]
        rfl
      exact ⟨_, hev, ab_bd_in hI hb hev⟩
    · cases hb'
theorem ab_dl_bd {h : ab_H} {f g : ab_L} {d : Int} (hd : ab_dl h f g = some d) : (∃ p, ab_bd h.1 f = some p) ∧ ∃ q, ab_bd h.1 g = some q := by
  unfold ab_dl at hd
  split at hd
  · rename_i p q hp hq
    exact ⟨⟨p, hp⟩, q, hq⟩
  · cases hd
theorem ab_fsr_in {r t : Nat} {fs : List ab_F} {k : ab_L} (h : ab_fsr r t fs = some k) : ∃ a, (r, (t, k), a) ∈ fs := by
  induction fs with
  | nil => cases h
  | cons q l ih =>
    unfold ab_fsr at h
    cases hc : (Nat.beq q.1 r && Nat.beq q.2.1.1 t) with
    | false =>
      rw [ee_cf hc] at h
      obtain ⟨a, ha⟩ := ih h
      exact ⟨a, List.mem_cons_of_mem _ ha⟩
    | true =>
      rw [ee_ct hc] at h
      rw [Bool.and_eq_true] at hc
      obtain ⟨q1, ⟨q2, q3⟩, q4⟩ := q
      have e1 : q1 = r := Nat.eq_of_beq_eq_true hc.1
      have e2 : q2 = t := Nat.eq_of_beq_eq_true hc.2
      have e3 : q3 = k := Option.some.inj h
      subst e1; subst e2; subst e3
      exact ⟨q4, List.mem_cons_self⟩
/-- a counter of the reference's row is at most what the word says -/
def ab_hct (i k : Nat) : ab_S → Option (List ab_S)
  | (pc, lo, st, h, r) => bif (match ee_nth h.2.2.1 i with
      | some κ => Nat.beq κ (nat_lit 37)
      | none => false) && ab_cn.any (fun c => Nat.beq c k) then (match ab_rfi (ab_ff h.2.2.2.1 i (nat_lit 1, nat_lit 0, 0, (k : Int))), ab_fsr i (nat_lit 6) h.2.2.2.1, ee_nth h.1 (nat_lit 0) with
    | some v, some x, some z => (match ab_bd h.1 x with
      | some q => ab_g (z.2 + q.2) fun hi => some (ab_set h v 0 hi (fun h' => [(pc, lo, st, h', r)]) [])
      | none => none)
    | _, _, _ => none) else none
/-- the word of counters is weakened -/
def ab_fl6 (i : Nat) : List ab_F → List ab_F
  | [] => []
  | g :: l => bif Nat.beq g.1 i && Nat.beq g.2.1.1 (nat_lit 6) then ab_fl6 i l else g :: ab_fl6 i l
theorem ab_fl6_in {i : Nat} {fs : List ab_F} {g : ab_F} (h : g ∈ ab_fl6 i fs) : g ∈ fs := by
  induction fs with
  | nil => cases h
  | cons q l ih =>
    unfold ab_fl6 at h
    cases hc : (Nat.beq q.1 i && Nat.beq q.2.1.1 (nat_lit 6)) with
    | true => rw [ee_ct hc] at h; exact List.mem_cons_of_mem _ (ih h)
    | false =>
      rw [ee_cf hc] at h
      rcases List.mem_cons.mp h with rfl | h
      · exact List.mem_cons_self
      · exact List.mem_cons_of_mem _ (ih h)
def ab_hcq (i : Nat) (f : ab_L) : ab_S → Option (List ab_S)
  | (pc, lo, st, h, r) => match ab_fsr i (nat_lit 6) h.2.2.2.1 with
    | some x => (match ab_dl h f x with
      | some d => bif decide (0 ≤ d) then some [(pc, lo, st, (h.1, h.2.1, h.2.2.1, (i, (nat_lit 6, f), .inl (nat_lit 0, 0, 0)) :: ab_fl6 i h.2.2.2.1, h.2.2.2.2), r)] else none
      | none => none)
    | none => none
/-- a word of no places at all -/
def ab_hbg (i k : Nat) : ab_S → Option (List ab_S)
  | (pc, lo, st, h, r) => match ab_ff h.2.2.2.1 i (k, nat_lit 0, 0, 0) with
    | some _ => none
    | none => bif (Nat.beq k (nat_lit 3) || (Nat.beq k (nat_lit 4) || Nat.beq k (nat_lit 7))) && (match ee_nth h.2.2.1 i with
      | some κ => (match ab_ka κ with
        | some q => Nat.beq q.1 (nat_lit 0)
        | none => false)
      | none => false) then some [(pc, lo, st, ab_adf h (i, (k, nat_lit 0, 0, 0), .inl (nat_lit 0, 0, 0)), r)] else none
def ab_inn (h : ab_H) (o : Option ab_L) (a b : Int) : Bool := match o with
  | some f => (match ab_bd h.1 f with
    | some q => decide (a ≤ q.1) && decide (q.2 ≤ b)
    | none => false)
  | none => false
/-- the form is never v -/
def ab_off (h : ab_H) (o : Option ab_L) (v : Int) : Bool := match o with
  | some f => (match ab_bd h.1 f with
    | some q => decide (v < q.1) || decide (q.2 < v)
    | none => false)
  | none => false
def ab_gt (h : ab_H) (o : Option ab_L) (v : Int) : Bool := match o with
  | some f => (match ab_bd h.1 f with
    | some q => decide (v < q.1)
    | none => false)
  | none => false
/-- one row of lines more is good -/
def ab_hrd (i k : Nat) (g : ab_L) : ab_S → Option (List ab_S)
  | (pc, lo, st, h, r) => match ab_ff h.2.2.2.1 i (k, g) with
    | none => none
    | some _ => (fun e : Int → Option ab_L => bif (Nat.beq k (nat_lit 3) && (ab_inn h (e 1) 0 20 && (ab_inn h (e 2) 0 3 && (ab_inn h (e 3) 0 3 && (ab_gt h (e 0) 5 || ab_inn h (e 1) 0 3)))))
        || (Nat.beq k (nat_lit 4) && ((match ee_nth h.2.2.1 i with
          | some κ => (match ab_ka κ with
            | some q => Nat.beq q.1 (nat_lit 0) && ab_inb h i q.2.1 (g.1, 4 * g.2.1, 4 * g.2.2 + 3)
            | none => false)
          | none => false) && ((ab_inn h (e 1) 0 20 && (ab_gt h (e 0) 6 || ab_inn h (e 1) 0 3)) && ((ab_off h (e 0) 4 || ab_inn h (e 2) 0 3) && ((ab_off h (e 0) 5 || (ab_inn h (e 2) 0 3 && ab_inn h (e 3) 0 2)) && (ab_off h (e 0) 6 || (ab_inn h (e 2) 0 2 && ab_inn h (e 3) 0 3))))))) then
      ab_g (g.2.2 + 1) (fun o => some [(pc, lo, st, ab_adf h (i, (k, g.1, g.2.1, o), .inl (nat_lit 0, 0, 0)), r)]) else none) (fun c => ab_rfi (ab_ff h.2.2.2.1 i (ab_rwk g c)))
/-- one place more is 0 -/
def ab_hzd (i : Nat) (g : ab_L) : ab_S → Option (List ab_S)
  | (pc, lo, st, h, r) => match ab_ff h.2.2.2.1 i (nat_lit 7, g), ab_rfi (ab_ff h.2.2.2.1 i (nat_lit 1, g)) with
    | some _, some f => bif decide (f.2.1 = 0) && decide (f.2.2 = 0) then ab_g (g.2.2 + 1) (fun o => some [(pc, lo, st, ab_adf h (i, (nat_lit 7, g.1, g.2.1, o), .inl (nat_lit 0, 0, 0)), r)]) else none
    | _, _ => none
def ab_a7 (h : ab_H) (i : Nat) (b : Int) : List ab_F → Bool
  | [] => false
  | g :: l => ((Nat.beq g.1 i && Nat.beq g.2.1.1 (nat_lit 7)) && (match ab_bd h.1 g.2.1.2 with
    | some q => decide (b ≤ q.1)
    | none => false)) || ab_a7 h i b l
theorem ab_a7_in {h : ab_H} {i : Nat} {b : Int} {fs : List ab_F} (ha : ab_a7 h i b fs = true) : ∃ (k : ab_L) (a : ab_A) (q : Int × Int), (i, (7, k), a) ∈ fs ∧ ab_bd h.1 k = some q ∧ b ≤ q.1 := by
  induction fs with
  | nil => cases ha
  | cons g l ih =>
    unfold ab_a7 at ha
    rw [Bool.or_eq_true] at ha
    rcases ha with ha | ha
    · rw [Bool.and_eq_true, Bool.and_eq_true] at ha
      obtain ⟨⟨a1, a2⟩, a3⟩ := ha
      obtain ⟨g1, ⟨g2, g3⟩, g4⟩ := g
      have e1 : g1 = i := Nat.eq_of_beq_eq_true a1
      have e2 : g2 = 7 := Nat.eq_of_beq_eq_true a2
      subst e1; subst e2
      split at a3
      · rename_i q hq
        exact ⟨g3, g4, q, List.mem_cons_self, hq, by simpa using a3⟩
      · cases a3
    · obtain ⟨k, a, q, h1, h2⟩ := ih ha
      exact ⟨k, a, q, List.mem_cons_of_mem _ h1, h2⟩
/-- all places are 0 -/
def ab_h75 (i : Nat) : ab_S → Option (List ab_S)
  | (pc, lo, st, h, r) => match ab_ff h.2.2.2.1 i (nat_lit 5, nat_lit 0, 0, 0), ee_nth h.2.2.1 i with
    | none, some κ => (match ab_ka κ with
      | some q => bif Nat.beq q.1 (nat_lit 0) && ab_a7 h i q.2.2 h.2.2.2.1 then some [(pc, lo, st, ab_adf h (i, (nat_lit 5, nat_lit 0, 0, 0), .inl (nat_lit 0, 0, 0)), r)] else none
      | none => none)
    | _, _ => none
/-- a place that is 0 so far -/
def ab_hze (i : Nat) (z : Int) : ab_S → Option (List ab_S)
  | (pc, lo, st, h, r) => match ab_ff h.2.2.2.1 i (nat_lit 1, nat_lit 0, 0, z) with
    | some _ => none
    | none => bif decide (0 ≤ z) && ab_a7 h i (z + 1) h.2.2.2.1 then some [(pc, lo, st, ab_adf h (i, (nat_lit 1, nat_lit 0, 0, z), .inl (nat_lit 0, 0, 0)), r)] else none
/-- a form by its difference to another -/
def ab_hrt (f g : ab_L) : ab_S → Option (List ab_S)
  | (pc, lo, st, h, r) => match ab_dl h g f, ab_dl h f g, ab_bd h.1 g with
    | some d, some d2, some q => ab_g (q.1 + d2) fun lo' => ab_g (q.2 - d) fun hi' => some (ab_set h f lo' hi' (fun h' => [(pc, lo, st, h', r)]) [])
    | _, _, _ => none
/-- a name whose number is known is put away -/
def ab_sbf (i : Nat) (z : Int) (f : ab_L) : ab_L := bif Nat.beq f.1 i && !decide (f.2.1 = 0) then ab_g (f.2.1 * z + f.2.2) (fun o => (nat_lit 0, 0, o)) else f
def ab_sba (i : Nat) (z : Int) : ab_A → ab_A
  | .inl f => .inl (ab_sbf i z f)
  | .inr q => .inr q
def ab_sbk (i : Nat) (z : Int) (k : ab_Key) : ab_Key := bif Nat.beq k.1 (nat_lit 0) || Nat.beq k.1 (nat_lit 2) then k else (k.1, ab_sbf i z k.2)
def ab_hsb (i : Nat) : ab_S → Option (List ab_S)
  | (pc, lo, st, h, r) => match ee_nth h.1 i with
    | some q => bif decide (q.1 = q.2) then some [(pc, ab_map (ab_sba i q.1) lo, ab_map (ab_sba i q.1) st, (h.1, h.2.1, h.2.2.1, ab_map (fun g : ab_F => (g.1, ab_sbk i q.1 g.2.1, ab_sba i q.1 g.2.2)) h.2.2.2.1, ab_map (fun d : Nat × ab_Key => (d.1, ab_sbk i q.1 d.2)) h.2.2.2.2), r)] else none
    | none => none
/-- what the row of the script of a thread may be -/
def ab_hr7 (i t : Nat) (g : ab_L) : ab_S → Option (List ab_S)
  | (pc, lo, st, h, r) => (fun e : Int → Option ab_L => match e 0 with
    | none => none
    | some v0 => (match ab_bd h.1 v0 with
      | none => none
      | some q => bif (match ee_nth h.2.2.1 i with
          | some κ => Nat.beq κ (nat_lit 37)
          | none => false) && (Nat.ble t (nat_lit 3) && ab_nn0 h 19 g) then
        some (ab_st1 h (e 1) 0 (bif decide (q.2 ≤ 6) then 3 else 20) fun h1 => ab_st1 h1 (bif (decide (q.1 = 4) && decide (q.2 = 4)) || ((decide (q.1 = 5) && decide (q.2 = 5)) || (decide (q.1 = 6) && decide (q.2 = 6))) then e 2 else none) 0 (bif decide (q.1 = 6) then 2 else 3) fun h2 => ab_st1 h2 (bif (decide (q.1 = 5) && decide (q.2 = 5)) || (decide (q.1 = 6) && decide (q.2 = 6)) then e 3 else none) 0 (bif decide (q.1 = 5) then 2 else 3) fun h3 => [(pc, lo, st, h3, r)]) else none)) (fun c => ab_rfi (ab_ff h.2.2.2.1 i (nat_lit 1, g.1, 4 * g.2.1, 4 * g.2.2 + (540 + 200 * (t : Int) + c))))
/-- lines that are good become lines of the class -/
def ab_h17 (cls : Nat → List ab_Cl) (mask X i : Nat) : ab_S → Option (List ab_S)
  | (pc, lo, st, h, r) => match ee_nth h.2.2.1 i, ab_rfi (ab_ff h.2.2.2.1 i (nat_lit 2, nat_lit 0, 0, 0)) with
    | some κf, some g => (match ab_ka κf, ab_ko κf, ab_bd h.1 g with
      | some qf, none, some q => bif (((Nat.ble (nat_lit 45) κf && Nat.blt κf (nat_lit 64)) && Nat.beq qf.1 (nat_lit 0)) && ((ab_wm mask κf && !ab_wm X κf) && ab_unq κf i h.2.2.1 (nat_lit 0))) && (((decide (g.2.1 % 4 = 0) && decide (g.2.2 % 4 = 0)) && (decide (0 ≤ q.1) && decide (q.2 ≤ 80))) && ((match ab_fsr i (nat_lit 3) h.2.2.2.1 with
          | some x => (match ab_dl h (x.1, 4 * x.2.1, 4 * x.2.2) g with
            | some d => decide (0 ≤ d)
            | none => false)
          | none => false) && (cls (nat_lit 17)).all (fun cc => ab_pv h i cc))) then some [(pc, lo, st, (h.1, h.2.1, ab_lset h.2.2.1 i (nat_lit 17), h.2.2.2.1, h.2.2.2.2.filter (fun d => !Nat.beq d.1 i)), r)] else none
      | _, _, _ => none)
    | _, _ => none
theorem ab_bif {α : Type} {c : Bool} {x : Option α} {L : α} (h : (bif c then x else none) = some L) : c = true ∧ x = some L := by
  cases c with
  | true => exact ⟨rfl, h⟩
  | false => cases h
section SH
variable {cls : Nat → List ab_Cl} {p : Program} {l : Launch} {e : Env} {R : Room} {s : State} {m : MethodId} {args : Array Value} {below : List Frame} {meth : Method} {c : Code} {Q : State → Prop} {D : va_G} {dA : Nat → ClassId} {xa : List Nat} {xt : ee_X} {B : Nat} {rv0 : List Int} {sv0 : ab_B} {y : Nat}
theorem ab_hct_snd {i k : Nat} {S : ab_S} {L : List ab_S} (h : ab_hct i k S = some L) (kk : ∀ S ∈ L, ab_WS cls p l e R s m args below meth c Q D dA xa B rv0 sv0 y S) : ab_WS cls p l e R s m args below meth c Q D dA xa B rv0 sv0 y S := by
  obtain ⟨pc, lo, st, hh, r⟩ := S
  unfold ab_hct at h
  dsimp only at h
  obtain ⟨hc, h⟩ := ab_bif h
  rw [Bool.and_eq_true] at hc
  obtain ⟨-, c2⟩ := hc
  obtain ⟨cn, hcn, hck⟩ := List.any_eq_true.mp c2
  have ek : cn = k := Nat.eq_of_beq_eq_true hck
  subst ek
  split at h
  · rename_i v x z hv hx hz
    split at h
    · rename_i q hq
      rw [ab_g_eq] at h
      cases h
      intro ks ws rv sv H locs ls vs hr0 hs0 hG hP hD hS hl hv9
      obtain ⟨q3, cA3, n3, ff3, jj, k1, k2, k3, k4, k5, k6⟩ := ab_el_fact hG hv
      obtain ⟨a6, ha6⟩ := ab_fsr_in hx
      obtain ⟨q4, e4, i4, v4, f1, f2, f3, f4, f5⟩ := hG.2.2.2.1 _ ha6
      have f1' : sv[i]? = some q4 := f1
      rw [k1] at f1'
      cases f1'
      rw [k2] at f2
      cases f2
      obtain ⟨⟨cA, n, f, he, hn, hcnt⟩, -⟩ := ab_rd_q2 (t := 3) f4
      cases he
      have f3' : (match rv[0]?, ab_ev rv x with
        | some n, some x => some (n + x)
        | _, _ => none) = some i4 := f3
      rw [ee_nth_eq] at hz
      obtain ⟨N, hN, hN1, hN2⟩ := hG.1.2 0 z hz
      obtain ⟨xx, hxx, hx1, hx2⟩ := ab_bd_ev hG.1 hq
      rw [hN, hxx] at f3'
      have ei : N + xx = i4 := Option.some.inj f3'
      have hb := hcnt 0 (by omega) cn hcn
      rw [ab_ev0 rfl] at k3
      have ej : (cn : Int) = jj := Option.some.inj k3
      have e9 : 1580 * 0 + cn = jj.toNat := by omega
      rw [e9] at hb
      obtain ⟨h', g', e'⟩ := ab_set_snd (k := fun h' => [((pc, lo, st, h', r) : ab_S)]) (imp := []) hG k6 (lo := 0) (hi := z.2 + q.2) hb.1 (by omega)
      refine kk (pc, lo, st, h', r) ?_ ks ws rv sv H locs ls vs hr0 hs0 g' hP hD hS hl hv9
      rw [e']
      exact List.mem_cons_self
    · cases h
  · cases h
theorem ab_hcq_snd {i : Nat} {f : ab_L} {S : ab_S} {L : List ab_S} (h : ab_hcq i f S = some L) (kk : ∀ S ∈ L, ab_WS cls p l e R s m args below meth c Q D dA xa B rv0 sv0 y S) : ab_WS cls p l e R s m args below meth c Q D dA xa B rv0 sv0 y S := by
  obtain ⟨pc, lo, st, hh, r⟩ := S
  unfold ab_hcq at h
  dsimp only at h
  split at h
  · rename_i x hx
    split at h
    · rename_i d hd
      obtain ⟨hc, h⟩ := ab_bif h
      cases h
      rw [decide_eq_true_eq] at hc
      intro ks ws rv sv H locs ls vs hr0 hs0 hG hP hD hS hl hv9
      obtain ⟨⟨pf, hpf⟩, px9, hpx⟩ := ab_dl_bd hd
      obtain ⟨yy, hyy, -⟩ := ab_bd_ev hG.1 hpf
      obtain ⟨xx, hxx, -⟩ := ab_bd_ev hG.1 hpx
      have d9 := ab_dl_in hG.1 hG.2.1 hyy hxx hd
      obtain ⟨a6, ha6⟩ := ab_fsr_in hx
      obtain ⟨q4, e4, i4, v4, f1, f2, f3, f4, f5⟩ := hG.2.2.2.1 _ ha6
      obtain ⟨⟨cA, n, f9, he, hn, hcnt⟩, -⟩ := ab_rd_q2 (t := 3) f4
      subst he
      have f3' : (match rv[0]?, ab_ev rv x with
        | some n, some x => some (n + x)
        | _, _ => none) = some i4 := f3
      cases hN : rv[0]? with
      | none => rw [hN] at f3'; cases f3'
      | some N =>
        rw [hN, hxx] at f3'
        have ei : N + xx = i4 := Option.some.inj f3'
        refine kk _ List.mem_cons_self ks ws rv sv H locs ls vs hr0 hs0 ⟨hG.1, hG.2.1, hG.2.2.1, fun g hg => ?_, hG.2.2.2.2⟩ hP hD hS hl hv9
        rcases List.mem_cons.mp hg with rfl | hg
        · refine ⟨q4, _, N + yy, .int 0, f1, f2, ?_, ab_rd_q (t := 3) ⟨cA, n, f9, rfl, hn, fun b hb c9 hc9 => ⟨(hcnt b hb c9 hc9).1, ?_⟩⟩, ⟨0, rfl, rfl⟩⟩
          · show (match rv[0]?, ab_ev rv f with
              | some n, some x => some (n + x)
              | _, _ => none) = some (N + yy)
            rw [hN, hyy]
          · have := (hcnt b hb c9 hc9).2
            omega
        · exact hG.2.2.2.1 g (ab_fl6_in hg)
    · cases h
  · cases h
theorem ab_hbg_snd {i k : Nat} {S : ab_S} {L : List ab_S} (h : ab_hbg i k S = some L) (kk : ∀ S ∈ L, ab_WS cls p l e R s m args below meth c Q D dA xa B rv0 sv0 y S) : ab_WS cls p l e R s m args below meth c Q D dA xa B rv0 sv0 y S := by
  obtain ⟨pc, lo, st, hh, r⟩ := S
  unfold ab_hbg at h
  dsimp only at h
  split at h
  · cases h
  · obtain ⟨hc, h⟩ := ab_bif h
    cases h
    rw [Bool.and_eq_true, Bool.or_eq_true, Bool.or_eq_true] at hc
    obtain ⟨c1, c2⟩ := hc
    split at c2
    · rename_i κ hκ
      split at c2
      · rename_i q hq
        rw [ee_nth_eq] at hκ
        intro ks ws rv sv H locs ls vs hr0 hs0 hG hP hD hS hl hv9
        obtain ⟨w, N, f, w1, w2, w3, -⟩ := ab_int_cell hG hκ hq (Nat.eq_of_beq_eq_true c2)
        refine kk _ List.mem_cons_self ks ws rv sv H locs ls vs hr0 hs0 (ab_G_adf hG ?_) hP hD hS hl hv9
        rcases c1 with c1 | c1 | c1
        · have ek : k = 3 := Nat.eq_of_beq_eq_true c1
          subst ek
          exact ⟨w, _, 0, .int 0, w1, w3, rfl, ab_rd_q (t := 0) ⟨dA 0, N, f, rfl, fun l hl => by omega⟩, ⟨0, rfl, rfl⟩⟩
        · have ek : k = 4 := Nat.eq_of_beq_eq_true c1
          subst ek
          exact ⟨w, _, 0, .int 0, w1, w3, rfl, ab_rd_q (t := 1) ⟨dA 0, N, f, rfl, fun l hl => by omega⟩, ⟨0, rfl, rfl⟩⟩
        · have ek : k = 7 := Nat.eq_of_beq_eq_true c1
          subst ek
          exact ⟨w, _, 0, .int 0, w1, w3, rfl, ab_rd_q (t := 4) ⟨dA 0, N, f, rfl, fun l hl => by omega⟩, ⟨0, rfl, rfl⟩⟩
      · cases c2
    · cases c2
section EL
variable {ks : List Nat} {ws : va_W} {rv : List Int} {sv : List (Nat × Nat)} {hh : ab_H}
theorem ab_el_at (hG : ab_G cls dA xa ks ws rv sv hh) {i : Nat} {g v : ab_L} {q : Nat × Nat} {cA : ClassId} {n : Nat} {f : Nat → Int32} {x c0 : Int} (f1 : sv[i]? = some q) (f2 : ws[q.1]? = some (q.2, .inl (cA, n, .inl f))) (hx : ab_ev rv g = some x) (hv : ab_rfi (ab_ff hh.2.2.2.1 i (ab_rwk g c0)) = some v) : 0 ≤ 4 * x + c0 ∧ 4 * x + c0 < (n : Int) ∧ ab_ev rv v = some (f (4 * x + c0).toNat).toInt := by
  obtain ⟨q3, cA3, n3, ff3, jj, k1, k2, k3, k4, k5, k6⟩ := ab_el_fact hG hv
  rw [f1] at k1
  cases k1
  rw [f2] at k2
  cases k2
  have e8 := k3
  rw [ab_ev_4 hx] at e8
  have e7 : 4 * x + c0 = jj := Option.some.inj e8
  rw [e7]
  exact ⟨k4, k5, k6⟩
theorem ab_inn_at (hG : ab_G cls dA xa ks ws rv sv hh) {i : Nat} {g : ab_L} {q : Nat × Nat} {cA : ClassId} {n : Nat} {f : Nat → Int32} {x c0 a b : Int} (f1 : sv[i]? = some q) (f2 : ws[q.1]? = some (q.2, .inl (cA, n, .inl f))) (hx : ab_ev rv g = some x) (hi : ab_inn hh (ab_rfi (ab_ff hh.2.2.2.1 i (ab_rwk g c0))) a b = true) : 4 * x + c0 < (n : Int) ∧ a ≤ (f (4 * x + c0).toNat).toInt ∧ (f (4 * x + c0).toNat).toInt ≤ b := by
  unfold ab_inn at hi
  split at hi
  · rename_i v hv
    split at hi
    · rename_i p9 hp9
      rw [Bool.and_eq_true, decide_eq_true_eq, decide_eq_true_eq] at hi
      obtain ⟨e1, e2, e3⟩ := ab_el_at hG f1 f2 hx hv
      have b9 := ab_bd_in hG.1 hp9 e3
      exact ⟨e2, by omega, by omega⟩
    · cases hi
  · cases hi
theorem ab_gt_at (hG : ab_G cls dA xa ks ws rv sv hh) {i : Nat} {g : ab_L} {q : Nat × Nat} {cA : ClassId} {n : Nat} {f : Nat → Int32} {x c0 a : Int} (f1 : sv[i]? = some q) (f2 : ws[q.1]? = some (q.2, .inl (cA, n, .inl f))) (hx : ab_ev rv g = some x) (hi : ab_gt hh (ab_rfi (ab_ff hh.2.2.2.1 i (ab_rwk g c0))) a = true) : a < (f (4 * x + c0).toNat).toInt := by
  unfold ab_gt at hi
  split at hi
  · rename_i v hv
    split at hi
    · rename_i p9 hp9
      rw [decide_eq_true_eq] at hi
      obtain ⟨e1, e2, e3⟩ := ab_el_at hG f1 f2 hx hv
      have b9 := ab_bd_in hG.1 hp9 e3
      omega
    · cases hi
  · cases hi
theorem ab_off_at (hG : ab_G cls dA xa ks ws rv sv hh) {i : Nat} {g : ab_L} {q : Nat × Nat} {cA : ClassId} {n : Nat} {f : Nat → Int32} {x c0 a : Int} (f1 : sv[i]? = some q) (f2 : ws[q.1]? = some (q.2, .inl (cA, n, .inl f))) (hx : ab_ev rv g = some x) (hi : ab_off hh (ab_rfi (ab_ff hh.2.2.2.1 i (ab_rwk g c0))) a = true) : (f (4 * x + c0).toNat).toInt ≠ a := by
  unfold ab_off at hi
  split at hi
  · rename_i v hv
    split at hi
    · rename_i p9 hp9
      rw [Bool.or_eq_true, decide_eq_true_eq, decide_eq_true_eq] at hi
      obtain ⟨e1, e2, e3⟩ := ab_el_at hG f1 f2 hx hv
      have b9 := ab_bd_in hG.1 hp9 e3
      omega
    · cases hi
  · cases hi
end EL
theorem ab_hrd_snd {i k : Nat} {g : ab_L} {S : ab_S} {L : List ab_S} (h : ab_hrd i k g S = some L) (kk : ∀ S ∈ L, ab_WS cls p l e R s m args below meth c Q D dA xa B rv0 sv0 y S) : ab_WS cls p l e R s m args below meth c Q D dA xa B rv0 sv0 y S := by
  obtain ⟨pc, lo, st, hh, r⟩ := S
  unfold ab_hrd at h
  dsimp only at h
  split at h
  · cases h
  · rename_i a ha
    obtain ⟨hc, h⟩ := ab_bif h
    rw [ab_g_eq] at h
    cases h
    intro ks ws rv sv H locs ls vs hr0 hs0 hG hP hD hS hl hv9
    refine kk _ List.mem_cons_self ks ws rv sv H locs ls vs hr0 hs0 (ab_G_adf hG ?_) hP hD hS hl hv9
    obtain ⟨q4, e4, i4, v4, f1, f2, f3, f4, f5⟩ := hG.2.2.2.1 _ (ab_ff_in ha)
    dsimp only at f1 f2 f3 f4 f5
    rw [Bool.or_eq_true] at hc
    rcases hc with hc | hc
    · simp only [Bool.and_eq_true, Bool.or_eq_true] at hc
      obtain ⟨c1, c2, c3, c4, c5⟩ := hc
      have ek : k = 3 := Nat.eq_of_beq_eq_true c1
      subst ek
      obtain ⟨⟨cA, n, f, he, hP3⟩, -⟩ := ab_rd_q2 (t := 0) f4
      subst he
      have f3' : ab_ev rv g = some i4 := f3
      refine ⟨q4, _, i4 + 1, .int 0, f1, f2, ab_ev_add f3', ab_rd_q (t := 0) ⟨cA, n, f, rfl, fun l hl => ?_⟩, ⟨0, rfl, rfl⟩⟩
      by_cases hlt : (l : Int) < i4
      · exact hP3 l hlt
      · have m1 := ab_inn_at hG f1 f2 f3' c2
        have m2 := ab_inn_at hG f1 f2 f3' c3
        have m3 := ab_inn_at hG f1 f2 f3' c4
        have p0 : (4 * i4 + 0).toNat = 4 * l := by omega
        have p1 : (4 * i4 + 1).toNat = 4 * l + 1 := by omega
        have p2 : (4 * i4 + 2).toNat = 4 * l + 2 := by omega
        have p3 : (4 * i4 + 3).toNat = 4 * l + 3 := by omega
        rw [p1] at m1
        rw [p2] at m2
        rw [p3] at m3
        refine ⟨by omega, m1.2, m2.2, m3.2, fun h5 => ?_⟩
        rcases c5 with c5 | c5
        · have m0 := ab_gt_at hG f1 f2 f3' c5
          rw [p0] at m0
          omega
        · have m0 := ab_inn_at hG f1 f2 f3' c5
          rw [p1] at m0
          exact m0.2.2
    · simp only [Bool.and_eq_true, Bool.or_eq_true] at hc
      obtain ⟨c1, c2, ⟨c3, c4⟩, c5, c6, c7⟩ := hc
      have ek : k = 4 := Nat.eq_of_beq_eq_true c1
      subst ek
      obtain ⟨⟨cA, n, f, he, hP3⟩, -⟩ := ab_rd_q2 (t := 1) f4
      subst he
      have f3' : ab_ev rv g = some i4 := f3
      have hin : 4 * i4 + 3 < (n : Int) := by
        split at c2
        · rename_i κ hκ
          split at c2
          · rename_i q hq
            rw [Bool.and_eq_true] at c2
            rw [ee_nth_eq] at hκ
            obtain ⟨w, N, f', w1, w2, w3, w4, -⟩ := ab_int_cell hG hκ hq (Nat.eq_of_beq_eq_true c2.1)
            have f1' : sv[i]? = some q4 := f1
            rw [w1] at f1'
            cases f1'
            rw [f2] at w3
            cases w3
            exact ab_inb_lt hG c2.2 (ab_ev_4 (c0 := 3) f3') w1 f2 w4
          · cases c2
        · cases c2
      refine ⟨q4, _, i4 + 1, .int 0, f1, f2, ab_ev_add f3', ab_rd_q (t := 1) ⟨cA, n, f, rfl, fun l hl => ?_⟩, ⟨0, rfl, rfl⟩⟩
      by_cases hlt : (l : Int) < i4
      · exact hP3 l hlt
      · have p0 : (4 * i4 + 0).toNat = 0 + 4 * l := by omega
        have p1 : (4 * i4 + 1).toNat = 0 + 4 * l + 1 := by omega
        have p2 : (4 * i4 + 2).toNat = 0 + 4 * l + 2 := by omega
        have p3 : (4 * i4 + 3).toNat = 0 + 4 * l + 3 := by omega
        have m1 := ab_inn_at hG f1 f2 f3' c3
        rw [p1] at m1
        refine ⟨by omega, m1.2, fun h5 => ?_, fun h5 => ?_, fun h5 => ?_, fun h5 => ?_⟩
        · rcases c4 with c4 | c4
          · have m0 := ab_gt_at hG f1 f2 f3' c4
            rw [p0] at m0
            omega
          · have m0 := ab_inn_at hG f1 f2 f3' c4
            rw [p1] at m0
            exact m0.2.2
        · rcases c5 with c5 | c5
          · have m0 := ab_off_at hG f1 f2 f3' c5
            rw [p0] at m0
            exact absurd h5 m0
          · have m0 := ab_inn_at hG f1 f2 f3' c5
            rw [p2] at m0
            exact m0.2
        · rcases c6 with c6 | ⟨c6, c8⟩
          · have m0 := ab_off_at hG f1 f2 f3' c6
            rw [p0] at m0
            exact absurd h5 m0
          · have m0 := ab_inn_at hG f1 f2 f3' c6
            have m9 := ab_inn_at hG f1 f2 f3' c8
            rw [p2] at m0
            rw [p3] at m9
            exact ⟨m0.2, m9.2⟩
        · rcases c7 with c7 | ⟨c7, c8⟩
          · have m0 := ab_off_at hG f1 f2 f3' c7
            rw [p0] at m0
            exact absurd h5 m0
          · have m0 := ab_inn_at hG f1 f2 f3' c7
            have m9 := ab_inn_at hG f1 f2 f3' c8
            rw [p2] at m0
            rw [p3] at m9
            exact ⟨m0.2, m9.2⟩
theorem ab_hzd_snd {i : Nat} {g : ab_L} {S : ab_S} {L : List ab_S} (h : ab_hzd i g S = some L) (kk : ∀ S ∈ L, ab_WS cls p l e R s m args below meth c Q D dA xa B rv0 sv0 y S) : ab_WS cls p l e R s m args below meth c Q D dA xa B rv0 sv0 y S := by
  obtain ⟨pc, lo, st, hh, r⟩ := S
  unfold ab_hzd at h
  dsimp only at h
  split at h
  · rename_i a f ha hf
    obtain ⟨hc, h⟩ := ab_bif h
    rw [ab_g_eq] at h
    cases h
    rw [Bool.and_eq_true, decide_eq_true_eq, decide_eq_true_eq] at hc
    intro ks ws rv sv H locs ls vs hr0 hs0 hG hP hD hS hl hv9
    refine kk _ List.mem_cons_self ks ws rv sv H locs ls vs hr0 hs0 (ab_G_adf hG ?_) hP hD hS hl hv9
    obtain ⟨q4, e4, i4, v4, f1, f2, f3, f4, f5⟩ := hG.2.2.2.1 _ (ab_ff_in ha)
    dsimp only at f1 f2 f3 f4 f5
    obtain ⟨⟨cA, n, f9, he, hP7⟩, -⟩ := ab_rd_q2 (t := 4) f4
    subst he
    have f3' : ab_ev rv g = some i4 := f3
    obtain ⟨q3, cA3, n3, ff3, jj, k1, k2, k3, k4, k5, k6⟩ := ab_el_fact hG hf
    rw [f1] at k1
    cases k1
    rw [f2] at k2
    cases k2
    rw [f3'] at k3
    cases k3
    rw [ab_ev0 hc.1, hc.2] at k6
    have e0 : f9 i4.toNat = 0 := Int32.toInt_inj.mp (Option.some.inj k6).symm
    refine ⟨q4, _, i4 + 1, .int 0, f1, f2, ab_ev_add f3', ab_rd_q (t := 4) ⟨cA, n, f9, rfl, fun l hl => ?_⟩, ⟨0, rfl, rfl⟩⟩
    by_cases hlt : (l : Int) < i4
    · exact hP7 l hlt
    · have e1 : i4.toNat = l := by omega
      rw [e1] at e0
      exact ⟨by omega, e0⟩
  · cases h
theorem ab_a7_snd {ks : List Nat} {ws : va_W} {rv : List Int} {sv : List (Nat × Nat)} {hh : ab_H} (hG : ab_G cls dA xa ks ws rv sv hh) {i : Nat} {b : Int} (ha : ab_a7 hh i b hh.2.2.2.1 = true) : ∃ (q : Nat × Nat) (cA : ClassId) (n : Nat) (f : Nat → Int32), sv[i]? = some q ∧ ws[q.1]? = some (q.2, .inl (cA, n, .inl f)) ∧ ∀ l : Nat, (l : Int) < b → l < n ∧ f l = 0 := by
  obtain ⟨k, a, q, h1, h2, h3⟩ := ab_a7_in ha
  obtain ⟨q4, e4, i4, v4, f1, f2, f3, f4, f5⟩ := hG.2.2.2.1 _ h1
  dsimp only at f1 f2 f3 f4 f5
  obtain ⟨⟨cA, n, f9, he, hP7⟩, -⟩ := ab_rd_q2 (t := 4) f4
  subst he
  have f3' : ab_ev rv k = some i4 := f3
  have b9 := ab_bd_in hG.1 h2 f3'
  exact ⟨q4, cA, n, f9, f1, f2, fun l hl => hP7 l (by omega)⟩
theorem ab_h75_snd {i : Nat} {S : ab_S} {L : List ab_S} (h : ab_h75 i S = some L) (kk : ∀ S ∈ L, ab_WS cls p l e R s m args below meth c Q D dA xa B rv0 sv0 y S) : ab_WS cls p l e R s m args below meth c Q D dA xa B rv0 sv0 y S := by
  obtain ⟨pc, lo, st, hh, r⟩ := S
  unfold ab_h75 at h
  dsimp only at h
  split at h
  · rename_i κ hno hκ
    split at h
    · rename_i q hq
      obtain ⟨hc, h⟩ := ab_bif h
      cases h
      rw [Bool.and_eq_true] at hc
      rw [ee_nth_eq] at hκ
      intro ks ws rv sv H locs ls vs hr0 hs0 hG hP hD hS hl hv9
      refine kk _ List.mem_cons_self ks ws rv sv H locs ls vs hr0 hs0 (ab_G_adf hG ?_) hP hD hS hl hv9
      obtain ⟨q4, cA, n, f9, f1, f2, h7⟩ := ab_a7_snd hG hc.2
      obtain ⟨w, N, f', w1, w2, w3, w4, w5, -⟩ := ab_int_cell hG hκ hq (Nat.eq_of_beq_eq_true hc.1)
      rw [f1] at w1
      cases w1
      rw [f2] at w3
      cases w3
      refine ⟨q4, _, 0, .int 0, f1, f2, rfl, ab_rd_q (t := 2) ⟨_, _, _, rfl, ?_⟩, ⟨0, rfl, rfl⟩⟩
      have e9 : (List.range n).filter (fun j => f9 j != 0) = [] := by
        rw [List.filter_eq_nil_iff]
        intro j hj
        rw [List.mem_range] at hj
        rw [(h7 j (by omega)).2]
        decide
      show (((List.range n).filter (fun j => f9 j != 0)).length : Int) ≤ 0
      rw [e9]
      exact Int.le_refl 0
    · cases h
  · cases h
theorem ab_hze_snd {i : Nat} {z : Int} {S : ab_S} {L : List ab_S} (h : ab_hze i z S = some L) (kk : ∀ S ∈ L, ab_WS cls p l e R s m args below meth c Q D dA xa B rv0 sv0 y S) : ab_WS cls p l e R s m args below meth c Q D dA xa B rv0 sv0 y S := by
  obtain ⟨pc, lo, st, hh, r⟩ := S
  unfold ab_hze at h
  dsimp only at h
  split at h
  · cases h
  · obtain ⟨hc, h⟩ := ab_bif h
    cases h
    rw [Bool.and_eq_true, decide_eq_true_eq] at hc
    intro ks ws rv sv H locs ls vs hr0 hs0 hG hP hD hS hl hv9
    refine kk _ List.mem_cons_self ks ws rv sv H locs ls vs hr0 hs0 (ab_G_adf hG ?_) hP hD hS hl hv9
    obtain ⟨q4, cA, n, f9, f1, f2, h7⟩ := ab_a7_snd hG hc.2
    obtain ⟨g1, g2⟩ := h7 z.toNat (by omega)
    refine ⟨q4, _, z, .int (f9 z.toNat), f1, f2, ab_ev0 rfl, ?_, ⟨_, rfl, ?_⟩⟩
    · show (if 0 ≤ z ∧ z < (n : Int) then some (Value.int (f9 z.toNat)) else none) = _
      rw [if_pos ⟨hc.1, by omega⟩]
    · rw [g2]
      exact ab_ev0 rfl
theorem ab_hrt_snd {f g : ab_L} {S : ab_S} {L : List ab_S} (h : ab_hrt f g S = some L) (kk : ∀ S ∈ L, ab_WS cls p l e R s m args below meth c Q D dA xa B rv0 sv0 y S) : ab_WS cls p l e R s m args below meth c Q D dA xa B rv0 sv0 y S := by
  obtain ⟨pc, lo, st, hh, r⟩ := S
  unfold ab_hrt at h
  dsimp only at h
  split at h
  · rename_i d d2 q hd hd2 hq
    rw [ab_g_eq, ab_g_eq] at h
    cases h
    intro ks ws rv sv H locs ls vs hr0 hs0 hG hP hD hS hl hv9
    obtain ⟨⟨pf, hpf⟩, -⟩ := ab_dl_bd hd2
    obtain ⟨x, hx, -⟩ := ab_bd_ev hG.1 hpf
    obtain ⟨u, hu, hu1, hu2⟩ := ab_bd_ev hG.1 hq
    have d9 := ab_dl_in hG.1 hG.2.1 hu hx hd
    have d8 := ab_dl_in hG.1 hG.2.1 hx hu hd2
    obtain ⟨h', g', e'⟩ := ab_set_snd (k := fun h' => [((pc, lo, st, h', r) : ab_S)]) (imp := []) hG hx (lo := q.1 + d2) (hi := q.2 - d) (by omega) (by omega)
    refine kk (pc, lo, st, h', r) ?_ ks ws rv sv H locs ls vs hr0 hs0 g' hP hD hS hl hv9
    rw [e']
    exact List.mem_cons_self
  · cases h
theorem ab_sbf_ev {rv : List Int} {i : Nat} {z : Int} (hz : rv[i]? = some z) (f : ab_L) : ab_ev rv (ab_sbf i z f) = ab_ev rv f := by
  unfold ab_sbf
  cases hc : (Nat.beq f.1 i && !decide (f.2.1 = 0)) with
  | false => rw [ee_cf rfl]
  | true =>
    rw [ee_ct rfl, ab_g_eq]
    rw [Bool.and_eq_true] at hc
    have e1 : f.1 = i := Nat.eq_of_beq_eq_true hc.1
    have h0 : ¬ f.2.1 = 0 := by
      have h9 := hc.2
      simpa using h9
    rw [ab_ev0 rfl]
    unfold ab_ev
    rw [if_neg h0, e1, hz]
    rfl
theorem ab_sbk_ki {rv : List Int} {i : Nat} {z : Int} (hz : rv[i]? = some z) (k : ab_Key) : ab_ki rv (ab_sbk i z k) = ab_ki rv k ∧ (ab_sbk i z k).1 = k.1 := by
  obtain ⟨t, f⟩ := k
  unfold ab_sbk
  dsimp only
  cases hc : (Nat.beq t (nat_lit 0) || Nat.beq t (nat_lit 2)) with
  | true => rw [ee_ct rfl]; exact ⟨rfl, rfl⟩
  | false =>
    rw [ee_cf rfl]
    refine ⟨?_, rfl⟩
    have he := ab_sbf_ev hz f
    match t, hc with
    | 0, hc => cases hc
    | 1, _ => exact he
    | 2, hc => cases hc
    | 3, _ => exact he
    | 4, _ => exact he
    | 5, _ => exact he
    | 6, _ =>
      show (match rv[0]?, ab_ev rv (ab_sbf i z f) with
        | some n, some x => some (n + x)
        | _, _ => none) = (match rv[0]?, ab_ev rv f with
        | some n, some x => some (n + x)
        | _, _ => none)
      rw [he]
    | t + 7, _ => exact he
theorem ab_sba_ok {rv : List Int} {sv : List (Nat × Nat)} {xa : List Nat} {i : Nat} {z : Int} (hz : rv[i]? = some z) {v : Value} {a : ab_A} (h : ab_ok rv sv xa v a) : ab_ok rv sv xa v (ab_sba i z a) := by
  match a, h with
  | .inl f, ⟨x, e, hx⟩ => exact ⟨x, e, (ab_sbf_ev hz f).trans hx⟩
  | .inr q, h => exact h
theorem ab_sba_a2 {rv : List Int} {sv : List (Nat × Nat)} {xa : List Nat} {i : Nat} {z : Int} (hz : rv[i]? = some z) : ∀ {vs : List Value} {st : List ab_A}, ab_a2 (ab_ok rv sv xa) vs st → ab_a2 (ab_ok rv sv xa) vs (ab_map (ab_sba i z) st)
  | [], [], _ => trivial
  | _ :: _, _ :: _, h => ⟨ab_sba_ok hz h.1, ab_sba_a2 hz h.2⟩
theorem ab_hsb_snd {i : Nat} {S : ab_S} {L : List ab_S} (h : ab_hsb i S = some L) (kk : ∀ S ∈ L, ab_WS cls p l e R s m args below meth c Q D dA xa B rv0 sv0 y S) : ab_WS cls p l e R s m args below meth c Q D dA xa B rv0 sv0 y S := by
  obtain ⟨pc, lo, st, hh, r⟩ := S
  unfold ab_hsb at h
  dsimp only at h
  split at h
  · rename_i q hq
    obtain ⟨hc, h⟩ := ab_bif h
    cases h
    rw [decide_eq_true_eq] at hc
    rw [ee_nth_eq] at hq
    intro ks ws rv sv H locs ls vs hr0 hs0 hG hP hD hS hl hv9
    obtain ⟨z, hz, z1, z2⟩ := hG.1.2 i q hq
    have ez : z = q.1 := by omega
    subst ez
    refine kk _ List.mem_cons_self ks ws rv sv H locs ls vs hr0 hs0 ⟨hG.1, hG.2.1, hG.2.2.1, fun g hg => ?_, hG.2.2.2.2.1, fun k9 κ9 a9 e9 g1 g2 cc hc hp => ?_⟩ hP hD hS ⟨?_, ?_⟩ (ab_sba_a2 hz hv9)
    · dsimp only at hg
      rw [ab_map_eq] at hg
      obtain ⟨g0, hg0, rfl⟩ := List.mem_map.mp hg
      obtain ⟨q4, e4, i4, v4, f1, f2, f3, f4, f5⟩ := hG.2.2.2.1 g0 hg0
      obtain ⟨k1, k2⟩ := ab_sbk_ki hz g0.2.1
      refine ⟨q4, e4, i4, v4, f1, f2, k1.trans f3, ?_, ab_sba_ok hz f5⟩
      show ab_rd e4 (ab_sbk i q.1 g0.2.1).1 i4 = some v4
      rw [k2]
      exact f4
    · refine hG.2.2.2.2.2 k9 κ9 a9 e9 g1 g2 cc hc (fun pp hpp ho => hp pp hpp ?_)
      obtain ⟨d, hd, q8, q1, q2, q3, q4⟩ := ho
      obtain ⟨k1, k2⟩ := ab_sbk_ki hz d.2
      refine ⟨(d.1, ab_sbk i q.1 d.2), ?_, q8, q1, q2, k2.trans q3, k1.trans q4⟩
      dsimp only
      rw [ab_map_eq]
      exact List.mem_map.mpr ⟨d, hd, rfl⟩
    · show (ab_map (ab_sba i q.1) lo).length = _
      rw [ab_map_eq, List.length_map]
      exact hl.1
    · obtain ⟨-, lv, hlv, hl3⟩ := hl
      refine ⟨lv, hlv, fun j a hj => ?_⟩
      have hj' : (ab_map (ab_sba i q.1) lo)[j]? = some a := hj
      rw [ab_map_eq, List.getElem?_map] at hj'
      cases ha : lo[j]? with
      | none => rw [ha] at hj'; cases hj'
      | some a0 =>
        rw [ha] at hj'
        have e9 : ab_sba i q.1 a0 = a := Option.some.inj hj'
        rcases hl3 j a0 ha with h9 | ⟨v, v1, v2⟩
        · left
          rw [← e9, h9]
          rfl
        · right
          rw [← e9]
          exact ⟨v, v1, ab_sba_ok hz v2⟩
  · cases h
theorem ab_hr7_snd {i t : Nat} {g : ab_L} {S : ab_S} {L : List ab_S} (h : ab_hr7 i t g S = some L) (kk : ∀ S ∈ L, ab_WS cls p l e R s m args below meth c Q D dA xa B rv0 sv0 y S) : ab_WS cls p l e R s m args below meth c Q D dA xa B rv0 sv0 y S := by
  obtain ⟨pc, lo, st, hh, r⟩ := S
  unfold ab_hr7 at h
  dsimp only at h
  split at h
  · cases h
  · rename_i v0 hv0
    split at h
    · cases h
    · rename_i q hq
      obtain ⟨hc, h⟩ := ab_bif h
      cases h
      rw [Bool.and_eq_true, Bool.and_eq_true] at hc
      obtain ⟨c1, c2, c3⟩ := hc
      have ht : t < 4 := by
        have := Nat.le_of_ble_eq_true c2
        omega
      intro ks ws rv sv H locs ls vs hr0 hs0 hG hP hD hS hl hv9
      obtain ⟨w, cA, n, f, w1, w2, hsr⟩ : ∃ (w : Nat × Nat) (cA : ClassId) (n : Nat) (f : Nat → Int32), sv[i]? = some w ∧ ws[w.1]? = some (w.2, .inl (cA, n, .inl f)) ∧ ab_sr f := by
        split at c1
        · rename_i κ hκ
          have e9 : κ = 37 := Nat.eq_of_beq_eq_true c1
          subst e9
          rw [ee_nth_eq] at hκ
          obtain ⟨w, e8, w1, w2, w3⟩ := hG.2.2.1.2 _ _ hκ
          obtain ⟨a9, e7, u1, u2⟩ := hG.2.2.2.2.1.2 _ 37 w2
          rw [w3] at u1
          cases u1
          obtain ⟨cA, n, f, rfl, h4⟩ := u2.2.2.2 rfl
          exact ⟨w, cA, n, f, w1, w3, h4⟩
        · cases c1
      unfold ab_nn0 at c3
      split at c3
      · rename_i pg hpg
        rw [Bool.and_eq_true, decide_eq_true_eq, decide_eq_true_eq] at c3
        obtain ⟨x, hx, hx1, hx2⟩ := ab_bd_ev hG.1 hpg
        have hel : ∀ (c0 : Int) (v : ab_L), ab_rfi (ab_ff hh.2.2.2.1 i (nat_lit 1, g.1, 4 * g.2.1, 4 * g.2.2 + (540 + 200 * (t : Int) + c0))) = some v → ab_ev rv v = some (f (4 * x + (540 + 200 * (t : Int) + c0)).toNat).toInt := by
          intro c0 v hv
          obtain ⟨q3, cA3, n3, ff3, jj, k1, k2, k3, k4, k5, k6⟩ := ab_el_fact hG hv
          rw [w1] at k1
          cases k1
          rw [w2] at k2
          cases k2
          have e8 := k3
          rw [ab_ev_4 hx] at e8
          have e7 : 4 * x + (540 + 200 * (t : Int) + c0) = jj := Option.some.inj e8
          rw [e7]
          exact k6
        have h7 := hsr t ht x.toNat (by omega)
        have p0 : (4 * x + (540 + 200 * (t : Int) + 0)).toNat = 540 + 200 * t + 4 * x.toNat := by omega
        have p1 : (4 * x + (540 + 200 * (t : Int) + 1)).toNat = 540 + 200 * t + 4 * x.toNat + 1 := by omega
        have p2 : (4 * x + (540 + 200 * (t : Int) + 2)).toNat = 540 + 200 * t + 4 * x.toNat + 2 := by omega
        have p3 : (4 * x + (540 + 200 * (t : Int) + 3)).toNat = 540 + 200 * t + 4 * x.toNat + 3 := by omega
        have b0 := ab_bd_in hG.1 hq (hel 0 v0 hv0)
        rw [p0] at b0
        obtain ⟨r1, r2, r3, r4, r5⟩ := h7
        generalize hF2 : (fun h2 : ab_H => ab_st1 h2 (bif (decide (q.1 = 5) && decide (q.2 = 5)) || (decide (q.1 = 6) && decide (q.2 = 6)) then ab_rfi (ab_ff hh.2.2.2.1 i (nat_lit 1, g.1, 4 * g.2.1, 4 * g.2.2 + (540 + 200 * (t : Int) + 3))) else none) 0 (bif decide (q.1 = 5) then 2 else 3) fun h3 => [((pc, lo, st, h3, r) : ab_S)]) = F2 at kk
        generalize hF1 : (fun h1 : ab_H => ab_st1 h1 (bif (decide (q.1 = 4) && decide (q.2 = 4)) || ((decide (q.1 = 5) && decide (q.2 = 5)) || (decide (q.1 = 6) && decide (q.2 = 6))) then ab_rfi (ab_ff hh.2.2.2.1 i (nat_lit 1, g.1, 4 * g.2.1, 4 * g.2.2 + (540 + 200 * (t : Int) + 2))) else none) 0 (bif decide (q.1 = 6) then 2 else 3) F2) = F1 at kk
        obtain ⟨h1', g1, e1⟩ := ab_st1_snd (k := F1) hG (o := ab_rfi (ab_ff hh.2.2.2.1 i (nat_lit 1, g.1, 4 * g.2.1, 4 * g.2.2 + (540 + 200 * (t : Int) + 1)))) (lo := 0) (hi := bif decide (q.2 ≤ 6) then 3 else 20) (fun v hv => by
          have hv' := hel 1 v hv
          rw [p1] at hv'
          refine ⟨_, hv', r1.1, ?_⟩
          cases hd : decide (q.2 ≤ 6) with
          | false => exact r1.2
          | true =>
            rw [decide_eq_true_eq] at hd
            exact r2 (by omega))
        obtain ⟨h2', g2, e2⟩ := ab_st1_snd (k := F2) g1 (o := bif (decide (q.1 = 4) && decide (q.2 = 4)) || ((decide (q.1 = 5) && decide (q.2 = 5)) || (decide (q.1 = 6) && decide (q.2 = 6))) then ab_rfi (ab_ff hh.2.2.2.1 i (nat_lit 1, g.1, 4 * g.2.1, 4 * g.2.2 + (540 + 200 * (t : Int) + 2))) else none) (lo := 0) (hi := bif decide (q.1 = 6) then 2 else 3) (fun v hv => by
          obtain ⟨hc9, hv⟩ := ab_bif hv
          have hv' := hel 2 v hv
          rw [p2] at hv'
          simp only [Bool.or_eq_true, Bool.and_eq_true, decide_eq_true_eq] at hc9
          rcases hc9 with ⟨d1, d2⟩ | ⟨d1, d2⟩ | ⟨d1, d2⟩
          · have h9 := r3 (by omega)
            rw [ee_cf (by rw [decide_eq_false_iff_not]; omega)]
            exact ⟨_, hv', h9.1, h9.2⟩
          · have h9 := (r4 (by omega)).1
            rw [ee_cf (by rw [decide_eq_false_iff_not]; omega)]
            exact ⟨_, hv', h9.1, h9.2⟩
          · have h9 := (r5 (by omega)).1
            rw [ee_ct (by rw [decide_eq_true_eq]; omega)]
            exact ⟨_, hv', h9.1, h9.2⟩)
        obtain ⟨h3', g3, e3⟩ := ab_st1_snd (k := fun h3 => [((pc, lo, st, h3, r) : ab_S)]) g2 (o := bif (decide (q.1 = 5) && decide (q.2 = 5)) || (decide (q.1 = 6) && decide (q.2 = 6)) then ab_rfi (ab_ff hh.2.2.2.1 i (nat_lit 1, g.1, 4 * g.2.1, 4 * g.2.2 + (540 + 200 * (t : Int) + 3))) else none) (lo := 0) (hi := bif decide (q.1 = 5) then 2 else 3) (fun v hv => by
          obtain ⟨hc9, hv⟩ := ab_bif hv
          have hv' := hel 3 v hv
          rw [p3] at hv'
          simp only [Bool.or_eq_true, Bool.and_eq_true, decide_eq_true_eq] at hc9
          rcases hc9 with ⟨d1, d2⟩ | ⟨d1, d2⟩
          · have h9 := (r4 (by omega)).2
            rw [ee_ct (by rw [decide_eq_true_eq]; omega)]
            exact ⟨_, hv', h9.1, h9.2⟩
          · have h9 := (r5 (by omega)).2
            rw [ee_cf (by rw [decide_eq_false_iff_not]; omega)]
            exact ⟨_, hv', h9.1, h9.2⟩)
        refine kk (pc, lo, st, h3', r) ?_ ks ws rv sv H locs ls vs hr0 hs0 g3 hP hD hS hl hv9
        rw [e1, ← hF1]
        show _ ∈ ab_st1 h1' _ 0 _ F2
        rw [e2, ← hF2]
        show _ ∈ ab_st1 h2' _ 0 _ _
        rw [e3]
        exact List.mem_cons_self
      · cases c3
theorem ab_h17_snd {mask X i : Nat} {S : ab_S} {L : List ab_S} (hmask : sv0.2.2.1 = ab_wm mask) (hXX : sv0.2.2.2.2.1 = X) (h : ab_h17 cls mask X i S = some L) (kk : ∀ S ∈ L, ab_WS cls p l e R s m args below meth c Q D dA xa B rv0 sv0 y S) : ab_WS cls p l e R s m args below meth c Q D dA xa B rv0 sv0 y S := by
  obtain ⟨pc, lo, st, hh, r⟩ := S
  unfold ab_h17 at h
  dsimp only at h
  split at h
  · rename_i κf g hκ hg
    split at h
    · rename_i qf q hka hko hq
      obtain ⟨hc, h⟩ := ab_bif h
      cases h
      simp only [Bool.and_eq_true, decide_eq_true_eq] at hc
      obtain ⟨⟨⟨⟨c1, c12⟩, c2⟩, ⟨c3, c4⟩, c5⟩, ⟨⟨c6, c7⟩, c8, c9⟩, c10, c11⟩ := hc
      have y1 : 45 ≤ κf := Nat.le_of_ble_eq_true c1
      have y12 : κf < 64 := Nat.le_of_ble_eq_true c12
      intro ks ws rv sv H locs ls vs hr0 hs0 hG hP hD hS hl hv9
      rw [ee_nth_eq] at hκ
      obtain ⟨w, N, f, w1, w2, w3, w4, w5, -⟩ := ab_int_cell hG hκ hka (Nat.eq_of_beq_eq_true c2)
      -- its length
      obtain ⟨q4, e4, i4, v4, f1, f2, f3, f4, x4, f5, f6⟩ := hG.2.2.2.1 _ (ab_ff_in (ab_rfi_eq hg))
      have f1' : sv[i]? = some q4 := f1
      rw [w1] at f1'
      cases f1'
      rw [w3] at f2
      cases f2
      have f4' : (if N < 2147483648 then some (Value.int (Int32.ofNat N)) else none) = some v4 := f4
      have hN : N < 2147483648 ∧ x4.toInt = (N : Int) := by
        by_cases hn : N < 2147483648
        · rw [if_pos hn, f5] at f4'
          have e7 : (Int32.ofNat N).toInt = (N : Int) := nI_toInt (n := N) (by omega)
          have e8 : Int32.ofNat N = x4 := by
            have := Option.some.inj f4'
            injection this
          exact ⟨hn, by rw [← e8, e7]⟩
        · rw [if_neg hn] at f4'
          cases f4'
      have f6' : ab_ev rv g = some (N : Int) := by
        rw [← hN.2]
        exact f6
      have bN := ab_bd_in hG.1 hq f6'
      have h4 : N % 4 = 0 := by
        unfold ab_ev at f6'
        by_cases h0 : g.2.1 = 0
        · rw [if_pos h0] at f6'
          have := Option.some.inj f6'
          omega
        · rw [if_neg h0] at f6'
          cases hz : rv[g.1]? with
          | none => rw [hz] at f6'; cases f6'
          | some z =>
            rw [hz] at f6'
            have e9 : g.2.1 * z + g.2.2 = (N : Int) := Option.some.inj f6'
            have e8 : g.2.1 * z = 4 * (g.2.1 / 4 * z) := by
              rw [← Int.mul_assoc]
              congr 1
              omega
            omega
      -- its rows
      have hrow : ∀ l : Nat, 4 * l + 3 < N → ab_row6 f l := by
        split at c10
        · rename_i x hx
          split at c10
          · rename_i d hd
            rw [decide_eq_true_eq] at c10
            obtain ⟨a6, ha6⟩ := ab_fsr_in hx
            obtain ⟨q5, e5, i5, v5, g1, g2, g3, g4, g5⟩ := hG.2.2.2.1 _ ha6
            have g1' : sv[i]? = some q5 := g1
            rw [w1] at g1'
            cases g1'
            rw [w3] at g2
            cases g2
            obtain ⟨⟨cA, n, f', he, hP3⟩, -⟩ := ab_rd_q2 (t := 0) g4
            cases he
            have g3' : ab_ev rv x = some i5 := g3
            have d9 := ab_dl_in hG.1 hG.2.1 (ab_ev_mul4 g3') f6' hd
            intro l hl
            exact (hP3 l (by omega)).2
          · cases c10
        · cases c10
      have hcell : ab_cell dA (ks.set w.1 17) (ws.map (·.1)) 17 (.inl (dA 0, N, .inl f)) := by
        refine ⟨fun ci ts h9 => (by cases (show none = some (ci, ts) from h9)), fun t9 lo9 hi9 h9 => ?_, fun _ => ⟨_, N, f, rfl, h4, by omega, hrow⟩, fun h9 => absurd h9 (by decide)⟩
        have h9' : some ((0 : Nat), (0 : Int), (80 : Int)) = some (t9, lo9, hi9) := h9
        cases h9'
        refine Or.inl ⟨Or.inl rfl, N, f, rfl, by omega, by omega, fun j hj => ?_⟩
        have e17 : ab_ke 17 j = .inl (-2147483648, 2147483647) := rfl
        rw [e17]
        exact ⟨f j, rfl, (ab_i32 _).1, (ab_i32 _).2⟩
      have hG2 := ab_G_pub (κ := 17) hG hκ y1 (fun j hj => by
        have h9 := ab_unq_in c5 j hj
        omega) w1 w2 w3 hcell (fun cc hcc => ab_pv_snd hG hD (List.all_eq_true.mp c11 cc hcc) w1 w3)
      have hbit : sv0.2.2.2.2.1.testBit κf = false := by
        rw [hXX, ← ab_wm_bit]
        cases h9 : ab_wm X κf with
        | false => rfl
        | true => rw [h9] at c4; cases c4
      have hpx := ab_px_pub hs0 w2 y1 y12 (Or.inl (show (17 : Nat) < 45 by decide)) (show (17 : Nat) ≠ 29 by decide) (by rw [hmask]; exact c3) hbit
      have k9 := kk _ List.mem_cons_self (ks.set w.1 17) ws rv sv H locs ls vs hr0 hpx (by rw [ab_lset_eq]; exact hG2) hP hD hS hl hv9
      dsimp only at k9 ⊢
      rw [ab_ph_pub w2 (by omega) (show (17 : Nat) ≠ 29 by decide)] at k9
      exact k9
    · cases h
  · cases h
end SH
/-- a hint -/
def ab_hp1 (cls : Nat → List ab_Cl) (mask X : Nat) (hn : ab_Hn) (S : ab_S) : Option (List ab_S) := bif Nat.ble hn.1 (nat_lit 10) then ab_hq1 cls hn S else match ab_adv hn.2.1 S with
  | some (.inl f) => bif decide (f.2.1 = 0) then none else bif Nat.beq hn.1 (nat_lit 18) then ab_hsb f.1 S
    else bif Nat.beq hn.1 (nat_lit 19) then (match ab_adv hn.2.2.2.2 S with
      | some (.inl g) => ab_hrt f g S
      | _ => none) else none
  | some (.inr (.inl (z + 1))) => ee_f (Nat.div z (nat_lit 2)) fun i => bif Nat.beq hn.1 (nat_lit 11) then (bif Nat.beq hn.2.2.1 (nat_lit 17) then ab_h17 cls mask X i S else ab_hpb cls mask X i hn.2.2.1 S)
    else bif Nat.beq hn.1 (nat_lit 12) then ab_hct i hn.2.2.1 S
    else bif Nat.beq hn.1 (nat_lit 14) then ab_hbg i hn.2.2.1 S
    else bif Nat.beq hn.1 (nat_lit 17) then ab_h75 i S
    else bif Nat.beq hn.1 (nat_lit 20) then ab_hze i hn.2.2.2.1 S
    else bif Nat.beq hn.1 (nat_lit 22) then (bif Nat.beq hn.2.2.1 (nat_lit 999) then ab_hcq i (nat_lit 0, 0, hn.2.2.2.1) S else ab_hcq i (hn.2.2.1, 1, hn.2.2.2.1) S)
    else (match ab_adv hn.2.2.2.2 S with
      | some (.inl f) => bif Nat.beq hn.1 (nat_lit 13) then ab_g ((hn.2.2.1 : Int) * f.2.1) (fun u => ab_g ((hn.2.2.1 : Int) * f.2.2 + hn.2.2.2.1) fun o => ab_hcq i (f.1, u, o) S)
        else bif Nat.beq hn.1 (nat_lit 15) then ab_hrd i hn.2.2.1 f S
        else bif Nat.beq hn.1 (nat_lit 16) then ab_hzd i f S
        else bif Nat.beq hn.1 (nat_lit 21) then ab_hr7 i hn.2.2.1 f S
        else bif Nat.beq hn.1 (nat_lit 23) && decide (f.2.1 = 0) then ab_hpb cls mask X i (Nat.add hn.2.2.1 f.2.2.toNat) S else none
      | _ => none)
  | _ => none
def ab_hp (cls : Nat → List ab_Cl) (mask X : Nat) (hn : ab_Hn) (S : ab_S) : List ab_S := match ab_hp1 cls mask X hn S with
  | some L => L
  | none => [S]
def ab_hpl (cls : Nat → List ab_Cl) (mask X : Nat) (hn : ab_Hn) : List ab_S → List ab_S
  | [] => []
  | S :: l => ab_app (ab_hp cls mask X hn S) (ab_hpl cls mask X hn l)
def ab_hps (cls : Nat → List ab_Cl) (mask X : Nat) : List ab_Hn → List ab_S → List ab_S
  | [], L => L
  | hn :: l, L => ab_hps cls mask X l (ab_hpl cls mask X hn L)
section HS
variable {cls : Nat → List ab_Cl} {p : Program} {l : Launch} {e : Env} {R : Room} {s : State} {m : MethodId} {args : Array Value} {below : List Frame} {meth : Method} {c : Code} {Q : State → Prop} {D : va_G} {dA : Nat → ClassId} {xa : List Nat} {xt : ee_X} {B : Nat} {rv0 : List Int} {sv0 : ab_B} {y mask X : Nat}
theorem ab_hp1_snd (hmask : sv0.2.2.1 = ab_wm mask) (hXX : sv0.2.2.2.2.1 = X) {hn : ab_Hn} {S : ab_S} {L : List ab_S} (h : ab_hp1 cls mask X hn S = some L) (k : ∀ S' ∈ L, ab_WS cls p l e R s m args below meth c Q D dA xa B rv0 sv0 y S') : ab_WS cls p l e R s m args below meth c Q D dA xa B rv0 sv0 y S := by
  unfold ab_hp1 at h
  cases c0 : Nat.ble hn.1 (nat_lit 10) with
  | true => rw [ee_ct c0] at h; exact ab_hq1_snd h k
  | false =>
    rw [ee_cf c0] at h
    split at h
    · rename_i f hf
      cases c1 : decide (f.2.1 = 0) with
      | true => rw [ee_ct c1] at h; cases h
      | false =>
        rw [ee_cf c1] at h
        cases c2 : Nat.beq hn.1 (nat_lit 18) with
        | true => rw [ee_ct c2] at h; exact ab_hsb_snd h k
        | false =>
          rw [ee_cf c2] at h
          cases c3 : Nat.beq hn.1 (nat_lit 19) with
          | false => rw [ee_cf c3] at h; cases h
          | true =>
            rw [ee_ct c3] at h
            split at h
            · exact ab_hrt_snd h k
            · cases h
    · rename_i z hz
      rw [ee_f_eq] at h
      cases c2 : Nat.beq hn.1 (nat_lit 11) with
      | true =>
        rw [ee_ct c2] at h
        cases c3 : Nat.beq hn.2.2.1 (nat_lit 17) with
        | true => rw [ee_ct c3] at h; exact ab_h17_snd hmask hXX h k
        | false => rw [ee_cf c3] at h; exact ab_hpb_snd hmask hXX h k
      | false =>
      rw [ee_cf c2] at h
      cases c3 : Nat.beq hn.1 (nat_lit 12) with
      | true => rw [ee_ct c3] at h; exact ab_hct_snd h k
      | false =>
      rw [ee_cf c3] at h
      cases c4 : Nat.beq hn.1 (nat_lit 14) with
      | true => rw [ee_ct c4] at h; exact ab_hbg_snd h k
      | false =>
      rw [ee_cf c4] at h
      cases c5 : Nat.beq hn.1 (nat_lit 17) with
      | true => rw [ee_ct c5] at h; exact ab_h75_snd h k
      | false =>
      rw [ee_cf c5] at h
      cases c6 : Nat.beq hn.1 (nat_lit 20) with
      | true => rw [ee_ct c6] at h; exact ab_hze_snd h k
      | false =>
      rw [ee_cf c6] at h
      cases c7 : Nat.beq hn.1 (nat_lit 22) with
      | true =>
        rw [ee_ct c7] at h
        cases c8 : Nat.beq hn.2.2.1 (nat_lit 999) with
        | true => rw [ee_ct c8] at h; exact ab_hcq_snd h k
        | false => rw [ee_cf c8] at h; exact ab_hcq_snd h k
      | false =>
      rw [ee_cf c7] at h
      split at h
      · rename_i f hf
        cases c8 : Nat.beq hn.1 (nat_lit 13) with
        | true => rw [ee_ct c8, ab_g_eq, ab_g_eq] at h; exact ab_hcq_snd h k
        | false =>
        rw [ee_cf c8] at h
        cases c9 : Nat.beq hn.1 (nat_lit 15) with
        | true => rw [ee_ct c9] at h; exact ab_hrd_snd h k
        | false =>
        rw [ee_cf c9] at h
        cases c10 : Nat.beq hn.1 (nat_lit 16) with
        | true => rw [ee_ct c10] at h; exact ab_hzd_snd h k
        | false =>
        rw [ee_cf c10] at h
        cases c11 : Nat.beq hn.1 (nat_lit 21) with
        | true => rw [ee_ct c11] at h; exact ab_hr7_snd h k
        | false =>
        rw [ee_cf c11] at h
        cases c12 : Nat.beq hn.1 (nat_lit 23) && decide (f.2.1 = 0) with
        | true => rw [ee_ct c12] at h; exact ab_hpb_snd hmask hXX h k
        | false => rw [ee_cf c12] at h; cases h
      · cases h
    · cases h
theorem ab_hp_snd (hmask : sv0.2.2.1 = ab_wm mask) (hXX : sv0.2.2.2.2.1 = X) {hn : ab_Hn} {S : ab_S} (k : ∀ S' ∈ ab_hp cls mask X hn S, ab_WS cls p l e R s m args below meth c Q D dA xa B rv0 sv0 y S') : ab_WS cls p l e R s m args below meth c Q D dA xa B rv0 sv0 y S := by
  unfold ab_hp at k
  split at k
  · rename_i L hL
    exact ab_hp1_snd hmask hXX hL k
  · exact k S List.mem_cons_self
theorem ab_hpl_snd (hmask : sv0.2.2.1 = ab_wm mask) (hXX : sv0.2.2.2.2.1 = X) {hn : ab_Hn} : ∀ {L : List ab_S}, (∀ S' ∈ ab_hpl cls mask X hn L, ab_WS cls p l e R s m args below meth c Q D dA xa B rv0 sv0 y S') → ∀ S ∈ L, ab_WS cls p l e R s m args below meth c Q D dA xa B rv0 sv0 y S
  | [], _, S, hS => by cases hS
  | S0 :: L, k, S, hS => by
    unfold ab_hpl at k
    rw [ab_app_eq] at k
    rcases List.mem_cons.mp hS with rfl | hS
    · exact ab_hp_snd hmask hXX (fun S' h' => k S' (List.mem_append_left _ h'))
    · exact ab_hpl_snd hmask hXX (fun S' h' => k S' (List.mem_append_right _ h')) S hS
theorem ab_hps_snd (hmask : sv0.2.2.1 = ab_wm mask) (hXX : sv0.2.2.2.2.1 = X) : ∀ {hs : List ab_Hn} {L : List ab_S}, (∀ S' ∈ ab_hps cls mask X hs L, ab_WS cls p l e R s m args below meth c Q D dA xa B rv0 sv0 y S') → ∀ S ∈ L, ab_WS cls p l e R s m args below meth c Q D dA xa B rv0 sv0 y S
  | [], L, k, S, hS => k S hS
  | hn :: hs, L, k, S, hS => ab_hpl_snd hmask hXX (ab_hps_snd hmask hXX k) S hS
end HS
