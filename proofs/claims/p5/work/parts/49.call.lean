/-! ===== names matched; the step of a call ===== -/
def ab_pu {α : Type} : List (Option α) → Nat → α → List (Option α)
  | [], _, _ => []
  | some b :: l, 0, _ => some b :: l
  | none :: l, 0, a => some a :: l
  | b :: l, n + 1, a => b :: ab_pu l n a
def ab_m1 (q : List (Option ab_L) × List (Option Nat)) : ab_A → ab_A → List (Option ab_L) × List (Option Nat)
  | .inl f, .inl g => bif decide (f.2.1 = 1) && decide (f.2.2 = 0) then (ab_pu q.1 f.1 g, q.2) else bif decide (0 < f.2.1) && decide (f.2.2 = 0) then ab_g (g.2.1 / f.2.1) (fun u => ab_g (g.2.2 / f.2.1) fun o => (ab_pu q.1 f.1 (g.1, u, o), q.2)) else q
  | .inr (.inl (z + 1)), .inr (.inl (u + 1)) => (q.1, ab_pu q.2 (Nat.div z (nat_lit 2)) (Nat.div u (nat_lit 2)))
  | _, _ => q
def ab_m2 : List ab_A → List ab_A → List (Option ab_L) × List (Option Nat) → List (Option ab_L) × List (Option Nat)
  | a :: l, b :: m, q => ab_m2 l m (ab_m1 q a b)
  | _, _, q => q
/-- a key of the template, as far as its names are known -/
def ab_mk (σ : List (Option ab_L)) (key : ab_Key) : Option ab_Key := bif Nat.beq key.1 (nat_lit 0) || Nat.beq key.1 (nat_lit 2) then some key else bif decide (key.2.2.1 = 0) then some (key.1, nat_lit 0, 0, key.2.2.2) else (match ee_nth σ key.2.1 with
  | some (some g) => bif decide (g.2.1 = 0) then ab_g (key.2.2.1 * g.2.2 + key.2.2.2) fun o => some (key.1, nat_lit 0, 0, o) else ab_g (key.2.2.1 * g.2.1) fun u => ab_g (key.2.2.1 * g.2.2 + key.2.2.2) fun o => some (key.1, g.1, u, o)
  | _ => none)
/-- the key of the first word of a row -/
def ab_fsr (r t : Nat) : List ab_F → Option ab_L
  | [] => none
  | g :: l => bif Nat.beq g.1 r && Nat.beq g.2.1.1 t then some g.2.1.2 else ab_fsr r t l
def ab_m3 (fs : List ab_F) : List ab_F → List (Option ab_L) × List (Option Nat) → List (Option ab_L) × List (Option Nat)
  | [], q => q
  | g :: l, q => bif Nat.ble (nat_lit 3) g.2.1.1 then (match ee_nth q.2 g.1 with
    | some (some r) => (match ab_fsr r g.2.1.1 fs with
      | some key => ab_m3 fs l ((fun q0 : List (Option ab_L) × List (Option Nat) => bif decide (g.2.1.2.2.1 = 0) then q0 else ab_m1 q0 (.inl g.2.1.2) (.inl key)) (bif Nat.beq g.2.1.1 (nat_lit 6) then (ab_pu q.1 (nat_lit 0) (nat_lit 0, 1, 0), q.2) else q))
      | none => ab_m3 fs l q)
    | _ => ab_m3 fs l q) else match ee_nth q.2 g.1, ab_mk q.1 g.2.1 with
    | some (some r), some key => (match ab_ff fs r key with
      | some b => ab_m3 fs l (ab_m1 q g.2.2 b)
      | none => ab_m3 fs l q)
    | _, _ => ab_m3 fs l q
def ab_nn {α β : Type} : List β → List (Option α)
  | [] => []
  | _ :: l => none :: ab_nn l
def ab_i1 : Nat → Nat → List (Option ab_L) → List (Option ab_L)
  | 0, _, l => l
  | n + 1, i, _ :: l => some (i, 1, 0) :: ab_i1 n (Nat.succ i) l
  | _ + 1, _, [] => []
def ab_i2 : Nat → Nat → List (Option Nat) → List (Option Nat)
  | 0, _, l => l
  | n + 1, i, _ :: l => some i :: ab_i2 n (Nat.succ i) l
  | _ + 1, _, [] => []
def ab_o1l : List (Option ab_L) → List ab_L
  | [] => []
  | some f :: l => f :: ab_o1l l
  | none :: l => (nat_lit 0, 0, 0) :: ab_o1l l
def ab_o2l : List (Option Nat) → List Nat
  | [] => []
  | some f :: l => f :: ab_o2l l
  | none :: l => nat_lit 0 :: ab_o2l l
/-- the template's names, read off the state -/
def ab_mt (n0 m0 : Nat) (lo st : List ab_A) (h : ab_H) (lo' st' : List ab_A) (t : ab_H) : List ab_L × List Nat :=
  (fun q : List (Option ab_L) × List (Option Nat) => (ab_o1l q.1, ab_o2l q.2)) (ab_m3 h.2.2.2.1 t.2.2.2.1 (ab_m2 st' st (ab_m2 lo' lo (ab_i1 n0 (nat_lit 0) (ab_nn t.1), ab_i2 m0 (nat_lit 0) (ab_nn t.2.2.1)))))
def ab_spl : Nat → List ab_A → List ab_A → Option (List ab_A × List ab_A)
  | 0, st, acc => some (acc, st)
  | _ + 1, [], _ => none
  | n + 1, a :: st, acc => ab_spl n st (a :: acc)
theorem ab_spl_snd {rv : List Int} {sv : List (Nat × Nat)} {xa : List Nat} : ∀ {n : Nat} {st acc as rest : List ab_A} {vs va : List Value}, ab_spl n st acc = some (as, rest) → ab_a2 (ab_ok rv sv xa) vs st → ab_a2 (ab_ok rv sv xa) va acc → ∃ v1 v2, va.reverse ++ vs = v1.reverse ++ v2 ∧ ab_a2 (ab_ok rv sv xa) v1 as ∧ ab_a2 (ab_ok rv sv xa) v2 rest ∧ v1.length = va.length + n
  | 0, st, acc, as, rest, vs, va, h, h1, h2 => by
    cases h
    exact ⟨va, vs, rfl, h2, h1, rfl⟩
  | n + 1, [], acc, as, rest, vs, va, h, h1, h2 => by cases h
  | n + 1, a :: st, acc, as, rest, [], va, h, h1, h2 => by cases h1
  | n + 1, a :: st, acc, as, rest, v :: vs, va, h, h1, h2 => by
    obtain ⟨v1, v2, e1, e2, e3, e4⟩ := ab_spl_snd (n := n) (va := v :: va) h h1.2 ⟨h1.1, h2⟩
    refine ⟨v1, v2, ?_, e2, e3, by rw [e4, List.length_cons]; omega⟩
    rw [← e1, List.reverse_cons, List.append_assoc]
    rfl
/-- what the callee's end says of its first names, and of differences -/
def ab_as1 {β : Type} (h : ab_H) (f g : ab_L) (d : Int) (k : ab_H → β) (imp : β) : β := match ab_bd h.1 f, ab_bd h.1 g, ab_dl h g f with
  | some p, some q, some dd => bif decide (0 < dd + d) then imp else ab_set h f (q.1 + d) p.2 (fun h1 => ab_set h1 g q.1 (p.2 - d) (fun h2 => ab_arl h2 f g d k) imp) imp
  | _, _, _ => k h
def ab_asl {β : Type} (σ : List ab_L) : List (Nat × Nat × Int) → ab_H → (ab_H → β) → β → β
  | [], h, k, _ => k h
  | r :: l, h, k, imp => match ee_nth σ r.1, ee_nth σ r.2.1 with
    | some f, some g => ab_as1 h f g r.2.2 (fun h1 => ab_asl σ l h1 k imp) imp
    | _, _ => ab_asl σ l h k imp
def ab_asi {β : Type} : List ab_L → List (Int × Int) → ab_H → (ab_H → β) → β → β
  | f :: σ, q :: l, h, k, imp => ab_set h f q.1 q.2 (fun h1 => ab_asi σ l h1 k imp) imp
  | _, _, h, k, _ => k h
section AS
variable {cls : Nat → List ab_Cl} {dA : Nat → ClassId} {xa ks : List Nat} {ws : va_W} {rv rv1 : List Int} {sv sv1 : List (Nat × Nat)}
theorem ab_as1_snd {h : ab_H} (hG : ab_G cls dA xa ks ws rv sv h) {f g : ab_L} {x u d : Int} (hx : ab_ev rv f = some x) (hu : ab_ev rv g = some u) (hd : u + d ≤ x) {β : Type} {k : ab_H → β} {imp : β} : ∃ h', ab_G cls dA xa ks ws rv sv h' ∧ ab_as1 h f g d k imp = k h' := by
  unfold ab_as1
  cases hp : ab_bd h.1 f with
  | none => exact ⟨h, hG, rfl⟩
  | some p =>
    cases hq : ab_bd h.1 g with
    | none => exact ⟨h, hG, rfl⟩
    | some q =>
    cases hdd : ab_dl h g f with
    | none => exact ⟨h, hG, rfl⟩
    | some dd =>
      dsimp only
      have b0 := ab_dl_in hG.1 hG.2.1 hu hx hdd
      rw [ee_cf (show decide (0 < dd + d) = false from decide_eq_false (by omega))]
      have b1 := ab_bd_in hG.1 hp hx
      have b2 := ab_bd_in hG.1 hq hu
      obtain ⟨h1, g1, e1⟩ := ab_set_snd (k := fun h1 => ab_set h1 g q.1 (p.2 - d) (fun h2 => ab_arl h2 f g d k) imp) (imp := imp) hG hx (lo := q.1 + d) (hi := p.2) (by omega) (by omega)
      obtain ⟨h2, g2, e2⟩ := ab_set_snd (k := fun h2 => ab_arl h2 f g d k) (imp := imp) g1 hu (lo := q.1) (hi := p.2 - d) (by omega) (by omega)
      obtain ⟨h3, g3, e3⟩ := ab_arl_snd (k := k) g2 hx hu (d := d) hd
      exact ⟨h3, g3, by rw [e1, e2]; exact e3⟩
theorem ab_asl_snd {σ : List ab_L} {ρ : List Nat} (hS : ab_SG rv sv σ ρ rv1 sv1) {β : Type} {k : ab_H → β} {imp : β} : ∀ {rl : List (Nat × Nat × Int)} {h : ab_H}, ab_G cls dA xa ks ws rv sv h → ab_Rl rv1 rl → ∃ h', ab_G cls dA xa ks ws rv sv h' ∧ ab_asl σ rl h k imp = k h'
  | [], h, hG, _ => ⟨h, hG, rfl⟩
  | r :: l, h, hG, hr => by
    unfold ab_asl
    split
    · rename_i f g hf hg
      rw [ee_nth_eq] at hf hg
      obtain ⟨x, x1, x2⟩ := hS.1.2 _ _ hf
      obtain ⟨u, u1, u2⟩ := hS.1.2 _ _ hg
      obtain ⟨a, b, a1, b1, b2⟩ := hr r List.mem_cons_self
      rw [x2] at a1
      cases a1
      rw [u2] at b1
      cases b1
      obtain ⟨h1, g1, e1⟩ := ab_as1_snd hG x1 u1 b2 (k := fun h1 => ab_asl σ l h1 k imp) (imp := imp)
      obtain ⟨h2, g2, e2⟩ := ab_asl_snd hS (k := k) (imp := imp) g1 (fun r h => hr r (List.mem_cons_of_mem _ h))
      exact ⟨h2, g2, by rw [e1]; exact e2⟩
    · exact ab_asl_snd hS hG (fun r h => hr r (List.mem_cons_of_mem _ h))
theorem ab_asi_snd {β : Type} {k : ab_H → β} {imp : β} : ∀ {σ : List ab_L} {iv : List (Int × Int)} {h : ab_H}, ab_G cls dA xa ks ws rv sv h → (∀ (i : Nat) (f : ab_L) (q : Int × Int), σ[i]? = some f → iv[i]? = some q → ∃ x, ab_ev rv f = some x ∧ q.1 ≤ x ∧ x ≤ q.2) → ∃ h', ab_G cls dA xa ks ws rv sv h' ∧ ab_asi σ iv h k imp = k h'
  | [], _, h, hG, _ => ⟨h, hG, rfl⟩
  | _ :: _, [], h, hG, _ => ⟨h, hG, rfl⟩
  | f :: σ, q :: iv, h, hG, hh => by
    obtain ⟨x, x1, x2, x3⟩ := hh 0 f q rfl rfl
    obtain ⟨h1, g1, e1⟩ := ab_set_snd (k := fun h1 => ab_asi σ iv h1 k imp) (imp := imp) hG x1 x2 x3
    obtain ⟨h2, g2, e2⟩ := ab_asi_snd (k := k) (imp := imp) g1 (fun i f q h1 h2 => hh (i + 1) f q h1 h2)
    exact ⟨h2, g2, by show ab_set h f q.1 q.2 _ imp = _; rw [e1]; exact e2⟩
end AS
/-- the answer -/
def ab_rta (σ : List ab_L) (ρ : List Nat) : Option ab_A → Option (List ab_A)
  | none => some []
  | some a => (match ab_ta σ ρ a with
    | some b => some [b]
    | none => none)
def ab_cxs (mX : Nat × Nat) (ne me n m : Nat) (σ : List ab_L) (ρ : List Nat) (h : ab_H) (pc : Nat) (lo rest : List ab_A) (ce sl : Nat) : List ab_X → Option (List ab_S)
  | [] => some []
  | x :: xs => match ab_td (ab_sg n ne σ x.2.1) (ab_rg m me ρ x.2.1) x.2.1.2.2.2.2, ab_rta (ab_sg n ne σ x.2.1) (ab_rg m me ρ x.2.1) x.1, ab_cxs mX ne me n m σ ρ h pc lo rest ce sl xs with
    | some dt, some av, some L => some (ab_app (ab_asi σ x.2.1.1 (ab_nh mX ne me (ab_sg n ne σ x.2.1) (ab_rg m me ρ x.2.1) h x.2.1 dt) (fun h1 => ab_asl (ab_sg n ne σ x.2.1) x.2.1.2.1 h1 (fun h2 => [(pc, lo, ab_app av rest, h2, Nat.add ce x.2.2.1, Nat.add sl x.2.2.2)]) []) []) L)
    | _, _, _ => none
/-- an instance method's receiver: not null, of the method's class -/
def ab_rcv1 (b : Nat) (h : ab_H) : List ab_A → Bool
  | .inr (.inl (z + 1)) :: _ => Nat.beq (Nat.mod z (nat_lit 2)) (nat_lit 0) && (match ee_nth h.2.2.1 (Nat.div z (nat_lit 2)) with
    | some κ => (match ab_ko κ with
      | some q => Nat.beq q.1 (ee_yc b)
      | none => false)
    | none => false)
  | _ => false
def ab_rcv (op b : Nat) (h : ab_H) (as : List ab_A) : Bool := bif Nat.beq op (nat_lit 39) || Nat.beq op (nat_lit 40) then ab_rcv1 b h as else true
theorem ab_rcv1_snd {cls : Nat → List ab_Cl} {dA : Nat → ClassId} {xa ks : List Nat} {ws : va_W} {rv : List Int} {sv : List (Nat × Nat)} {h : ab_H} (hG : ab_G cls dA xa ks ws rv sv h) {b : Nat} : ∀ {as : List ab_A} {vA : List Value}, ab_rcv1 b h as = true → ab_a2 (ab_ok rv sv xa) vA as → ∃ (ax kk0 : Nat) (fs vB : List Value), vA = .ref ax :: vB ∧ ws[kk0]? = some (ax, .inr (ee_yc b, fs))
  | [], _, hc, _ => by cases hc
  | .inl _ :: _, _, hc, _ => by cases hc
  | .inr (.inl 0) :: _, _, hc, _ => by cases hc
  | .inr (.inr _) :: _, _, hc, _ => by cases hc
  | .inr (.inl (z + 1)) :: as, [], _, hA => by cases hA
  | .inr (.inl (z + 1)) :: as, v0 :: vB, hc, hA => by
    unfold ab_rcv1 at hc
    rw [Bool.and_eq_true] at hc
    obtain ⟨q9, q91, rfl⟩ := ab_nnul hc.1 hA.1
    have h8 := hc.2
    split at h8
    · rename_i κ hκ
      split at h8
      · rename_i w9 hko
        have e9 : w9.1 = ee_yc b := Nat.eq_of_beq_eq_true h8
        rw [ee_nth_eq] at hκ
        obtain ⟨q8, e8, y1', y2, y3⟩ := hG.2.2.1.2 _ κ hκ
        have y1'' : sv[z / 2]? = some q8 := y1'
        rw [q91] at y1''
        have e7 : q9 = q8 := Option.some.inj y1''
        subst e7
        obtain ⟨a6, e6, u1, u2⟩ := hG.2.2.2.2.1.2 _ κ y2
        rw [y3] at u1
        cases u1
        obtain ⟨vs6, u3, -⟩ := u2.1 w9.1 w9.2 hko
        rw [u3, e9] at y3
        exact ⟨q9.2, q9.1, vs6, vB, rfl, y3⟩
      · cases h8
    · cases h8
/-- the caller's fresh cells keep their kind -/
def ab_rkx (X : Nat) (rk : List Nat) : Bool := rk.all fun κ => Nat.blt κ (nat_lit 45) || ab_wm X κ
def ab_cck (cC cS mask X op b : Nat) (as rest : List ab_A) (h : ab_H) (ce sl : Nat) (K : ab_K) (σ : List ab_L) (ρ : List Nat) : Bool :=
  ((Nat.beq K.1.1 b && Nat.beq (ee_na b) (bif Nat.beq op (nat_lit 39) || Nat.beq op (nat_lit 40) then Nat.succ (ee_np b) else ee_np b)) && (ab_rcv op b h as && Nat.ble (ab_cat rest) (nat_lit 8))) && (((Nat.ble (Nat.add ce K.2.1.1) cC && Nat.ble (Nat.add sl K.2.1.2) cS) && (Nat.beq (Nat.land K.2.2.2.2.1 mask) K.2.2.2.2.1 && (Nat.beq (Nat.land X K.2.2.2.2.2) X && ab_rkx K.2.2.2.2.2 h.2.2.1))) && (ab_z2 (ab_en1 σ ρ) K.2.2.1.1 as && ab_leh σ ρ h K.2.2.1.2))
def ab_cal (cC cS mask X op b : Nat) (K : ab_K) : ab_S → Option (List ab_S)
  | (pc, lo, st, h, ce, sl) => match ab_spl (ee_na b) st [] with
    | some (as, rest) => (fun q : List ab_L × List Nat => bif ab_cck cC cS mask X op b as rest h ce sl K q.1 q.2 then ee_f (ee_len K.2.2.1.2.1) fun ne => ee_f (ee_len K.2.2.1.2.2.2.1) fun me => ee_f (ee_len h.1) fun n => ee_f (ee_len h.2.2.1) fun m => ab_cxs K.2.2.2.2 ne me n m q.1 q.2 h (Nat.add pc (nat_lit 3)) lo rest ce sl K.2.2.2.1 else none) (ab_mt (nat_lit 0) (nat_lit 0) [] as h [] K.2.2.1.1 K.2.2.1.2)
    | none => none
theorem ab_cxs_in {mX : Nat × Nat} {ne me n m : Nat} {σ : List ab_L} {ρ : List Nat} {h : ab_H} {pc : Nat} {lo rest : List ab_A} {ce sl : Nat} : ∀ {xs : List ab_X} {L : List ab_S}, ab_cxs mX ne me n m σ ρ h pc lo rest ce sl xs = some L → ∀ x ∈ xs, ∃ dt av, ab_td (ab_sg n ne σ x.2.1) (ab_rg m me ρ x.2.1) x.2.1.2.2.2.2 = some dt ∧ ab_rta (ab_sg n ne σ x.2.1) (ab_rg m me ρ x.2.1) x.1 = some av ∧ ∀ S ∈ ab_asi σ x.2.1.1 (ab_nh mX ne me (ab_sg n ne σ x.2.1) (ab_rg m me ρ x.2.1) h x.2.1 dt) (fun h1 => ab_asl (ab_sg n ne σ x.2.1) x.2.1.2.1 h1 (fun h2 => [(pc, lo, ab_app av rest, h2, Nat.add ce x.2.2.1, Nat.add sl x.2.2.2)]) []) [], S ∈ L
  | [], L, _, x, hx => by cases hx
  | q :: xs, L, hL, x, hx => by
    unfold ab_cxs at hL
    split at hL
    · rename_i dt av L9 hdt hav hL9
      cases hL
      rw [ab_app_eq]
      rcases List.mem_cons.mp hx with rfl | hx
      · exact ⟨dt, av, hdt, hav, fun S hS => List.mem_append_left _ hS⟩
      · obtain ⟨dt', av', d1, d2, d3⟩ := ab_cxs_in hL9 x hx
        exact ⟨dt', av', d1, d2, fun S hS => List.mem_append_right _ (d3 S hS)⟩
    · cases hL
section CS
variable {cls : Nat → List ab_Cl} {p : Program} {l : Launch} {e : Env} {R : Room} {s : State} {m : MethodId} {args : Array Value} {below : List Frame} {meth : Method} {c : Code} {Q : State → Prop} {D : va_G} {dA : Nat → ClassId} {xa : List Nat} {xt : ee_X} {B : Nat} {rv0 : List Int} {sv0 : ab_B} {y : Nat}
variable {pc a b n cC cS d : Nat} {r : List ab_A × List ab_A × ab_H × Nat × Nat} {L : List ab_S}
theorem as_call {op mask X : Nat} {K : ab_K} (hop : op = 39 ∨ op = 40 ∨ op = 41 ∨ op = 42) (hR : d ≤ R.frames ∧ 40 * d ≤ R.locals) (hd0 : 0 < d) (hcap : cC + (6144 - sv0.2.2.2.2.2 / 1024) ≤ R.cells ∧ cS + (6291456 - sv0.2.2.2.2.2) ≤ R.slots) (hmask : sv0.2.2.1 = ab_wm mask) (hXX : sv0.2.2.2.2.1 = X) (hC : ee_C p s m args meth c D dA xa xt B y) (hs : ee_sc y pc (op, a, b, n) = true) (y1 : 1 ≤ b) (hK : ab_CT cls l D dA xa xt B K) (hdp : K.1.2 < d)
    (h : ab_cal cC cS mask X op b K (pc, r) = some L) (k : ∀ S ∈ L, ab_WS cls p l e R s m args below meth c Q D dA xa B rv0 sv0 y S) : ab_WS cls p l e R s m args below meth c Q D dA xa B rv0 sv0 y (pc, r) := by
  obtain ⟨lo, st, hh, ce, sl⟩ := r
  unfold ab_cal at h
  dsimp only at h
  split at h
  · rename_i as rest hspl
    generalize hmt : ab_mt (nat_lit 0) (nat_lit 0) [] as hh [] K.2.2.1.1 K.2.2.1.2 = q at h
    obtain ⟨σ, ρ⟩ := q
    dsimp only at h
    cases hc : ab_cck cC cS mask X op b as rest hh ce sl K σ ρ with
    | false => rw [ee_cf hc] at h; cases h
    | true =>
      rw [ee_ct hc] at h
      simp only [ee_f_eq, ee_len_eq] at h
      unfold ab_cck at hc
      simp only [Bool.and_eq_true] at hc
      obtain ⟨⟨⟨c1, c2⟩, c3, c4⟩, ⟨⟨c5, c6⟩, c7, c8, c8x⟩, c9, c10⟩ := hc
      have e1 : K.1.1 = b := Nat.eq_of_beq_eq_true c1
      have c5' : ce + K.2.1.1 ≤ cC := Nat.le_of_ble_eq_true c5
      have c6' : sl + K.2.1.2 ≤ cS := Nat.le_of_ble_eq_true c6
      have c4' : ab_cat rest ≤ 8 := Nat.le_of_ble_eq_true c4
      have c8' : ∀ b9, X.testBit b9 = true → K.2.2.2.2.2.testBit b9 = true := fun b9 h9 => by
        rw [← ab_wm_bit] at h9 ⊢
        exact ab_wm_sub c8 h9
      have c8k : ∀ κ, κ ∈ hh.2.2.1 → 45 ≤ κ → K.2.2.2.2.2.testBit κ = true := fun κ hm h45 => by
        have h9 := List.all_eq_true.mp c8x κ hm
        rw [Bool.or_eq_true] at h9
        rcases h9 with h9 | h9
        · have : κ < 45 := Nat.le_of_ble_eq_true h9
          omega
        · rw [← ab_wm_bit]
          exact h9
      intro ks ws rv sv H locs ls vs hr0 hs0 hG hP hD hS hl hv
      dsimp only at hG hl hv ⊢
      obtain ⟨vA, vr, ev, hA, hvr, hnA⟩ := ab_spl_snd (va := []) hspl hv trivial
      have ev' : vs = vA.reverse ++ vr := ev
      have c10' := c10
      unfold ab_leh at c10'
      rw [Bool.and_eq_true, Bool.and_eq_true, Bool.and_eq_true] at c10'
      obtain ⟨d1, -, d3, -⟩ := c10'
      obtain ⟨rve, sve, hSG⟩ := ab_SG_mk (σ := σ) (ρ := ρ) hG.1 hG.2.2.1 (fun i f hf => by
        obtain ⟨b9, -, b2⟩ := (ab_z2_get d1).2 i f hf
        split at b2
        · rename_i p9 hp9
          exact ⟨p9, hp9⟩
        · cases b2) (fun i r hr => by
        obtain ⟨b9, -, b2⟩ := (ab_z2_get d3).2 i r hr
        split at b2
        · rename_i κ' hκ'
          rw [ee_nth_eq] at hκ'
          exact ⟨κ', hκ'⟩
        · cases b2)
      have hGe := ab_leh_G hG hSG c10
      have hAe := ab_z2_a2 (P := ab_ok rve sve xa) (P' := ab_ok rv sv xa) (fun v a b hab hb => ab_en1_ok hSG hab hb) c9 hA
      have hct := hK (d - 1) (by omega) sv0.2.2.2.1 ks ws rve sve vA hGe hAe hs0.2.1.2.2
      rw [e1] at hct
      have hsz : ls.size = ee_ml y := by
        obtain ⟨-, lv, hlv, -⟩ := hl
        exact hlv.1
      have hph := ab_ph_le (ke := sv0.2.2.2.1) hG.2.2.2.2.1 hD
      have hb0 := hs0.2.2
      have hcat : (vr.map fun v => v.category).sum ≤ 8 := Nat.le_trans (ab_cat_le hvr) c4'
      have hcp : ce + (ab_ph sv0.2.2.2.1 ks ws / 1024 - sv0.2.2.2.2.2 / 1024) + (K.2.1.1 + (6144 - ab_ph sv0.2.2.2.1 ks ws / 1024)) ≤ R.cells ∧ sl + (ab_ph sv0.2.2.2.1 ks ws - sv0.2.2.2.2.2) + (K.2.1.2 + (6291456 - ab_ph sv0.2.2.2.1 ks ws)) ≤ R.slots := ⟨by have := hcap.1; omega, by have := hcap.2; omega⟩
      have l1 : rve.length = K.2.2.1.2.1.length := hGe.1.1
      have l2 : sve.length = K.2.2.1.2.2.2.1.length := hGe.2.2.1.1
      have onward : ∀ (v : Option Value) (ws1 : va_W) (H1 : Heap) (locs1 : List Loc) (k9 n9 : Nat), (∃ (x : ab_X) (ks1 : List Nat) (rv1 : List Int) (sv1 : List (Nat × Nat)), x ∈ K.2.2.2.1 ∧ rve <+: rv1 ∧ ab_px (sve, (ks, ws), ab_wm K.2.2.2.2.1, sv0.2.2.2.1, K.2.2.2.2.2, ab_ph sv0.2.2.2.1 ks ws) ks1 ws1 sv1 ∧ ab_G cls dA xa ks1 ws1 rv1 sv1 x.2.1 ∧ ab_an rv1 sv1 xa v x.1 ∧ k9 = x.2.2.1 + (ab_ph sv0.2.2.2.1 ks1 ws1 / 1024 - ab_ph sv0.2.2.2.1 ks ws / 1024) ∧ n9 = x.2.2.2 + (ab_ph sv0.2.2.2.1 ks1 ws1 - ab_ph sv0.2.2.2.1 ks ws)) → va_P D ee_cl ws1 H1 → va_D (fun q => B ≤ q) ws1 → va_S (fun q => B ≤ q) s.heap H1 locs1 → W p l e R s m args below meth c H1 locs1 (ce + (ab_ph sv0.2.2.2.1 ks ws / 1024 - sv0.2.2.2.2.2 / 1024) + k9) (sl + (ab_ph sv0.2.2.2.1 ks ws - sv0.2.2.2.2.2) + n9) Q (F0 m (pc + 3) ls (v.toList ++ vr)) := by
        intro v ws1 H1 locs1 k9 n9 hq hP1 hD1 hS1
        obtain ⟨x, ks1, rv1, sv1, hx, hr1, hpx, hG1, han, rfl, rfl⟩ := hq
        obtain ⟨dt, av, hdt, hav, hin⟩ := ab_cxs_in h x hx
        rw [← l1, ← l2] at hdt hav hin
        have hS' := ab_call_SG hG.1 hG.2.2.1.1 hSG hr1 hpx.1 hG1.1 hG1.2.2.1.1
        have hG' : ab_G cls dA xa ks1 ws1 (rv ++ rv1.drop rve.length) (sv ++ sv1.drop sve.length) (ab_nh K.2.2.2.2 rve.length sve.length (ab_sg hh.1.length rve.length σ x.2.1) (ab_rg hh.2.2.1.length sve.length ρ x.2.1) hh x.2.1 dt) := ab_call_G hG hSG hr1 hpx hG1 c8k hdt
        have hpx' := ab_px_call (sv' := sv ++ sv1.drop sve.length) hs0 hpx rfl (fun κ hκ => by rw [hmask]; exact ab_wm_sub c7 hκ) (by rw [hXX]; exact c8') (List.prefix_append sv _)
        have hb1 : ab_ph sv0.2.2.2.1 ks ws ≤ ab_ph sv0.2.2.2.1 ks1 ws1 := hpx.2.2
        have es : sl + (ab_ph sv0.2.2.2.1 ks ws - sv0.2.2.2.2.2) + (x.2.2.2 + (ab_ph sv0.2.2.2.1 ks1 ws1 - ab_ph sv0.2.2.2.1 ks ws)) = sl + x.2.2.2 + (ab_ph sv0.2.2.2.1 ks1 ws1 - sv0.2.2.2.2.2) := by omega
        have ec : ce + (ab_ph sv0.2.2.2.1 ks ws / 1024 - sv0.2.2.2.2.2 / 1024) + (x.2.2.1 + (ab_ph sv0.2.2.2.1 ks1 ws1 / 1024 - ab_ph sv0.2.2.2.1 ks ws / 1024)) = ce + x.2.2.1 + (ab_ph sv0.2.2.2.1 ks1 ws1 / 1024 - sv0.2.2.2.2.2 / 1024) := by omega
        rw [es, ec]
        have p1 : rv <+: rv ++ rv1.drop rve.length := List.prefix_append rv _
        have p2 : sv <+: sv ++ sv1.drop sve.length := List.prefix_append sv _
        obtain ⟨ha, g1, e1⟩ := ab_asi_snd (σ := σ) (iv := x.2.1.1) (k := fun h1 => ab_asl (ab_sg hh.1.length rve.length σ x.2.1) x.2.1.2.1 h1 (fun h2 => [((Nat.add pc (nat_lit 3), lo, ab_app av rest, h2, Nat.add ce x.2.2.1, Nat.add sl x.2.2.2) : ab_S)]) []) (imp := []) hG' (fun i f q hf hq => by
          obtain ⟨z, z1, z2⟩ := hSG.1.2 i f hf
          obtain ⟨z', z3, z4, z5⟩ := hG1.1.2 i q hq
          rw [ab_pre hr1 z2] at z3
          cases z3
          exact ⟨z, ab_ev_mono p1 z1, z4, z5⟩)
        obtain ⟨hb, g2, e2⟩ := ab_asl_snd hS' (rl := x.2.1.2.1) (k := fun h2 => [((Nat.add pc (nat_lit 3), lo, ab_app av rest, h2, Nat.add ce x.2.2.1, Nat.add sl x.2.2.2) : ab_S)]) (imp := []) g1 hG1.2.1
        rw [e1] at hin
        have hm := hin (Nat.add pc (nat_lit 3), lo, ab_app av rest, hb, Nat.add ce x.2.2.1, Nat.add sl x.2.2.2) (by rw [e2]; exact List.mem_cons_self)
        rw [ab_app_eq] at hm
        cases hx0 : x.1 with
        | none =>
          rw [hx0] at han hav
          have hv0 : v = none := by
            cases v with
            | none => rfl
            | some v => cases han
          subst hv0
          cases hav
          exact k _ hm ks1 ws1 _ _ H1 locs1 ls vr (hr0.trans p1) hpx' g2 hP1 hD1 hS1 (ab_lo_mono p1 p2 hl) (ab_a2_mono (fun _ _ => ab_ok_mono p1 p2) hvr)
        | some a9 =>
          rw [hx0] at han hav
          cases v with
          | none => cases han
          | some v =>
            have hav' : (match ab_ta (ab_sg hh.1.length rve.length σ x.2.1) (ab_rg hh.2.2.1.length sve.length ρ x.2.1) a9 with
              | some b => some [b]
              | none => none) = some av := hav
            split at hav'
            · rename_i b9 ha9
              cases hav'
              exact k _ hm ks1 ws1 _ _ H1 locs1 ls (v :: vr) (hr0.trans p1) hpx' g2 hP1 hD1 hS1 (ab_lo_mono p1 p2 hl) ⟨ab_ta_ok hS' ha9 han, ab_a2_mono (fun _ _ => ab_ok_mono p1 p2) hvr⟩
            · cases hav'
      have e2 : ee_na b = (bif Nat.beq op (nat_lit 39) || Nat.beq op (nat_lit 40) then Nat.succ (ee_np b) else ee_np b) := Nat.eq_of_beq_eq_true c2
      subst ev'
      have recv : (op = 39 ∨ op = 40) → ∃ (ax kk0 : Nat) (fs vB : List Value), vA = .ref ax :: vB ∧ vB.length = ee_np b ∧ ws[kk0]? = some (ax, .inr (ee_yc b, fs)) := by
        intro h9
        have hb9 : (Nat.beq op (nat_lit 39) || Nat.beq op (nat_lit 40)) = true := by
          rcases h9 with rfl | rfl <;> rfl
        rw [hb9] at e2
        unfold ab_rcv at c3
        rw [hb9] at c3
        obtain ⟨ax, kk0, fs, vB, e5, e6⟩ := ab_rcv1_snd hG (show ab_rcv1 b hh as = true from c3) hA
        refine ⟨ax, kk0, fs, vB, e5, ?_, e6⟩
        rw [e5] at hnA
        have hnA' : vB.length + 1 = 0 + ee_na b := hnA
        have e2' : ee_na b = ee_np b + 1 := e2
        omega
      have stat : (op = 41 ∨ op = 42) → vA.length = ee_np b := by
        intro h9
        have hb9 : (Nat.beq op (nat_lit 39) || Nat.beq op (nat_lit 40)) = false := by
          rcases h9 with rfl | rfl <;> rfl
        rw [hb9] at e2
        have e2' : ee_na b = ee_np b := e2
        rw [hnA, e2']
        exact Nat.zero_add _
      rcases hop with rfl | rfl | rfl | rfl
      · obtain ⟨ax, kk0, fs, vB, rfl, hvB, hws⟩ := recv (Or.inl rfl)
        rw [List.reverse_cons, List.append_assoc]
        exact sm_39 (P := fun vs9 ws9 => vs9 = .ref ax :: vB ∧ ws9 = ws) hR hd0 hC hs y1 hct hP hD hS hsz ⟨rfl, rfl⟩ hvB hcat hcp onward
      · obtain ⟨ax, kk0, fs, vB, rfl, hvB, hws⟩ := recv (Or.inr rfl)
        rw [List.reverse_cons, List.append_assoc]
        exact sm_40 (P := fun vs9 ws9 => vs9 = .ref ax :: vB ∧ ws9 = ws) hR hd0 hC hs y1 hct hP hD hS hsz hws ⟨rfl, rfl⟩ hvB hcat hcp onward
      · exact sm_41 (P := fun vs9 ws9 => vs9 = vA ∧ ws9 = ws) hR hd0 hC hs y1 hct hP hD hS hsz ⟨rfl, rfl⟩ (stat (Or.inl rfl)) hcat hcp onward
      · exact sm_42 (P := fun vs9 ws9 => vs9 = vA ∧ ws9 = ws) hR hd0 hC hs y1 hct hP hD hS hsz ⟨rfl, rfl⟩ (stat (Or.inr rfl)) hcat hcp onward
  · cases h
end CS
