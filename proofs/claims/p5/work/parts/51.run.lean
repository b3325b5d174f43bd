/-! ===== a run to returns and cuts, with calls and hints ===== -/
def ab_cls1 (cC cS mask X op b : Nat) (S : ab_S) : List ab_K → Option (List ab_S)
  | [] => none
  | K :: l => bif Nat.beq K.1.1 b then (match ab_cal cC cS mask X op b K S with
    | some L => some L
    | none => ab_cls1 cC cS mask X op b S l) else ab_cls1 cC cS mask X op b S l
/-- open places that no clause looks at are closed -/
def ab_acf (cls : Nat → List ab_Cl) (h : ab_H) : List (Nat × ab_Key) → List (Nat × ab_Key)
  | [] => []
  | d :: l => bif (match ee_nth h.2.2.1 d.1 with
    | some κ => (cls κ).all fun cc => ab_np2 h cc d
    | none => false) then ab_acf cls h l else d :: ab_acf cls h l
def ab_ac0 (cls : Nat → List ab_Cl) : ab_S → ab_S
  | (pc, lo, st, h, r) => (pc, lo, st, (h.1, h.2.1, h.2.2.1, h.2.2.2.1, ab_acf cls h h.2.2.2.2), r)
/-- and the clauses of the cell that was written last are checked, if they hold -/
def ab_acl (cls : Nat → List ab_Cl) (S : ab_S) : ab_S := (fun S0 : ab_S => match S0.2.2.2.1.2.2.2.2 with
  | [] => S0
  | d :: _ => (match ab_hck cls d.1 S0 with
    | some [S1] => S1
    | _ => S0)) (ab_ac0 cls S)
theorem ab_acf_in {cls : Nat → List ab_Cl} {h : ab_H} {dt : List (Nat × ab_Key)} {d : Nat × ab_Key} (hd : d ∈ dt) (hk : ∀ κ, h.2.2.1[d.1]? = some κ → ∃ cc ∈ cls κ, ab_np2 h cc d = false) : d ∈ ab_acf cls h dt := by
  induction dt with
  | nil => cases hd
  | cons e l ih =>
    unfold ab_acf
    cases hc : (match ee_nth h.2.2.1 e.1 with
      | some κ => (cls κ).all fun cc => ab_np2 h cc e
      | none => false) with
    | true =>
      rcases List.mem_cons.mp hd with rfl | hd
      · exfalso
        split at hc
        · rename_i κ hκ
          rw [ee_nth_eq] at hκ
          obtain ⟨cc, h1, h2⟩ := hk κ hκ
          have h3 := List.all_eq_true.mp hc cc h1
          rw [h2] at h3
          cases h3
        · cases hc
      · exact ih hd
    | false =>
      rcases List.mem_cons.mp hd with rfl | hd
      · exact List.mem_cons_self
      · exact List.mem_cons_of_mem _ (ih hd)
def ab_wop (op : Nat) : Bool := Nat.beq op (nat_lit 26) || (Nat.beq op (nat_lit 29) || (Nat.beq op (nat_lit 31) || (Nat.beq op (nat_lit 33) || Nat.beq op (nat_lit 73))))
def ab_one (cls : Nat → List ab_Cl) (cC cS mask X : Nat) (Ks : List ab_K) (hk : Nat → Nat) (y : Nat) (S : ab_S) : Option (List ab_S) := match ee_pg y S.1 with
  | some i => bif Nat.blt S.1 (nat_lit 1100) then (bif Nat.ble (nat_lit 39) i.1 && Nat.ble i.1 (nat_lit 42) then (bif Nat.ble (nat_lit 1) i.2.2.1 then ab_cls1 cC cS mask X i.1 i.2.2.1 S Ks else none)
      else bif Nat.beq i.1 (nat_lit 38) then ab_o38 i.2.2.2 S
      else bif Nat.beq i.1 (nat_lit 55) then ab_o55 cC cS i.2.2.2 S
      else bif Nat.beq i.1 (nat_lit 76) then ab_o76 cC cS i.2.2.2 S
      else bif Nat.beq i.1 (nat_lit 43) then ab_o43 (ab_wm mask) i.2.2.2 S
      else bif Nat.beq i.1 (nat_lit 34) then (match ab_o34x i.2.2.2 S with
        | some L => some L
        | none => ab_o34 i.2.2.2 S)
      else bif Nat.beq i.1 (nat_lit 28) then (match ab_o28x i.2.2.2 S with
        | some L => some L
        | none => ab_o28 (nat_lit 0) i.2.2.2 S)
      else bif ab_wop i.1 then (match ab_step (ab_wm mask) cC cS (hk S.1) i.1 i.2.1 i.2.2.1 i.2.2.2 S with
        | some L => some (ab_map (ab_acl cls) L)
        | none => none)
      else ab_step (ab_wm mask) cC cS (hk S.1) i.1 i.2.1 i.2.2.1 i.2.2.2 S) else none
  | none => none
def ab_adx (cls : Nat → List ab_Cl) (cC cS mask X : Nat) (Ks : List ab_K) (hk : Nat → Nat) (y : Nat) : List ab_S → Option (List ab_S)
  | [] => some []
  | S :: l => match ab_one cls cC cS mask X Ks hk y S with
    | some L => (match ab_adx cls cC cS mask X Ks hk y l with
      | some L2 => some (ab_app L L2)
      | none => none)
    | none => none
def ab_rn (cls : Nat → List ab_Cl) (cC cS mask X : Nat) (Ks : List ab_K) (hk : Nat → Nat) (ht : Nat → List ab_Hn) (y : Nat) (stop : Nat → Bool) (fin : ab_S → Bool) : Nat → List ab_S → Bool
  | _, [] => true
  | 0, _ :: _ => false
  | n + 1, S :: w => bif stop S.1 then (bif fin S then ab_rn cls cC cS mask X Ks hk ht y stop fin n w else false) else match ab_adx cls cC cS mask X Ks hk y (ab_hps cls mask X (ht S.1) [S]) with
    | some L => ab_rn cls cC cS mask X Ks hk ht y stop fin n (ab_app L w)
    | none => false
/-- from a template on: its own place doesn't stop it -/
def ab_rn0 (cls : Nat → List ab_Cl) (cC cS mask X : Nat) (Ks : List ab_K) (hk : Nat → Nat) (ht : Nat → List ab_Hn) (y : Nat) (stop : Nat → Bool) (fin : ab_S → Bool) (n : Nat) (S : ab_S) : Bool := match ab_adx cls cC cS mask X Ks hk y (ab_hps cls mask X (ht S.1) [S]) with
  | some L => ab_rn cls cC cS mask X Ks hk ht y stop fin n L
  | none => false
section RN2
variable {cls : Nat → List ab_Cl} {p : Program} {l : Launch} {e : Env} {R : Room} {s : State} {m : MethodId} {args : Array Value} {below : List Frame} {meth : Method} {c : Code} {Q : State → Prop} {D : va_G} {dA : Nat → ClassId} {xa : List Nat} {xt : ee_X} {B : Nat} {rv0 : List Int} {sv0 : ab_B} {y : Nat}
variable {cC cS mask X d : Nat} {Ks : List ab_K} {hk : Nat → Nat} {ht : Nat → List ab_Hn}
theorem ab_ac0_snd {S : ab_S} (k : ab_WS cls p l e R s m args below meth c Q D dA xa B rv0 sv0 y (ab_ac0 cls S)) : ab_WS cls p l e R s m args below meth c Q D dA xa B rv0 sv0 y S := by
  obtain ⟨pc, lo, st, hh, r⟩ := S
  intro ks ws rv sv H locs ls vs hr0 hs0 hG hP hD hS hl hv
  refine k ks ws rv sv H locs ls vs hr0 hs0 ⟨hG.1, hG.2.1, hG.2.2.1, hG.2.2.2.1, hG.2.2.2.2.1, fun k9 κ9 a9 e9 g1 g2 cc hc hp => ?_⟩ hP hD hS hl hv
  refine hG.2.2.2.2.2 k9 κ9 a9 e9 g1 g2 cc hc (fun pp hm ho => hp pp hm ?_)
  obtain ⟨d, hd, q, q1, q2, q3, q4⟩ := ho
  refine ⟨d, ab_acf_in hd (fun κ hκ => ⟨cc, ?_, ?_⟩), q, q1, q2, q3, q4⟩
  · obtain ⟨q8, e8, w1, w2, w3⟩ := hG.2.2.1.2 _ κ hκ
    rw [q1] at w1
    have e7 : q = q8 := Option.some.inj w1
    subst e7
    rw [q2, g1] at w2
    have e6 : κ9 = κ := Option.some.inj w2
    subst e6
    exact hc
  · cases hn : ab_np2 hh cc d with
    | false => rfl
    | true => exact (ab_np2_snd hG.1 hn hm q3 q4).elim
theorem ab_acl_snd {S : ab_S} (k : ab_WS cls p l e R s m args below meth c Q D dA xa B rv0 sv0 y (ab_acl cls S)) : ab_WS cls p l e R s m args below meth c Q D dA xa B rv0 sv0 y S := by
  refine ab_ac0_snd ?_
  unfold ab_acl at k
  generalize ab_ac0 cls S = S0 at k ⊢
  dsimp only at k
  split at k
  · exact k
  · split at k
    · rename_i S1 h1
      exact ab_hck_snd h1 (fun S' h' => by
        rcases List.mem_cons.mp h' with rfl | h'
        · exact k
        · cases h')
    · exact k
theorem ab_cls1_snd {op b a n : Nat} (hop : op = 39 ∨ op = 40 ∨ op = 41 ∨ op = 42) (hR : d ≤ R.frames ∧ 40 * d ≤ R.locals) (hd0 : 0 < d) (hcap : cC + (6144 - sv0.2.2.2.2.2 / 1024) ≤ R.cells ∧ cS + (6291456 - sv0.2.2.2.2.2) ≤ R.slots) (hmask : sv0.2.2.1 = ab_wm mask) (hXX : sv0.2.2.2.2.1 = X) (hC : ee_C p s m args meth c D dA xa xt B y) {S : ab_S} (hs : ee_sc y S.1 (op, a, b, n) = true) (y1 : 1 ≤ b) : ∀ {Ks : List ab_K} {L : List ab_S}, (∀ K ∈ Ks, ab_CT cls l D dA xa xt B K ∧ K.1.2 < d) → ab_cls1 cC cS mask X op b S Ks = some L → (∀ S ∈ L, ab_WS cls p l e R s m args below meth c Q D dA xa B rv0 sv0 y S) → ab_WS cls p l e R s m args below meth c Q D dA xa B rv0 sv0 y S
  | [], L, _, h, _ => by cases h
  | K :: l9, L, hK, h, k => by
    unfold ab_cls1 at h
    cases hb : Nat.beq K.1.1 b with
    | false =>
      rw [ee_cf hb] at h
      exact ab_cls1_snd hop hR hd0 hcap hmask hXX hC hs y1 (fun K9 h9 => hK K9 (List.mem_cons_of_mem _ h9)) h k
    | true =>
      rw [ee_ct hb] at h
      split at h
      · rename_i L9 hL9
        cases h
        obtain ⟨pc9, r9⟩ := S
        exact as_call hop hR hd0 hcap hmask hXX hC hs y1 (hK K List.mem_cons_self).1 (hK K List.mem_cons_self).2 hL9 k
      · exact ab_cls1_snd hop hR hd0 hcap hmask hXX hC hs y1 (fun K9 h9 => hK K9 (List.mem_cons_of_mem _ h9)) h k
theorem ab_one_snd (hxt : xt[1]? = some (some ab_rnd)) (hR : d ≤ R.frames ∧ 40 * d ≤ R.locals) (hd0 : 0 < d) (hcap : cC + (6144 - sv0.2.2.2.2.2 / 1024) ≤ R.cells ∧ cS + (6291456 - sv0.2.2.2.2.2) ≤ R.slots) (hmask : sv0.2.2.1 = ab_wm mask) (hXX : sv0.2.2.2.2.1 = X) (hnc : ∀ κ, ab_nc κ = true → cls κ = []) (hcok : ab_cok cls) (hcok2 : ab_cok2 cls) (hC : ee_C p s m args meth c D dA xa xt B y) (hyM : y < ee_nM) (hK : ∀ K ∈ Ks, ab_CT cls l D dA xa xt B K ∧ K.1.2 < d)
    {S : ab_S} {L : List ab_S} (h : ab_one cls cC cS mask X Ks hk y S = some L) (k : ∀ S ∈ L, ab_WS cls p l e R s m args below meth c Q D dA xa B rv0 sv0 y S) : ab_WS cls p l e R s m args below meth c Q D dA xa B rv0 sv0 y S := by
  unfold ab_one at h
  split at h
  · rename_i i hi
    obtain ⟨op, a, b, n⟩ := i
    dsimp only at h
    cases hb : Nat.blt S.1 (nat_lit 1100) with
    | false => rw [ee_cf hb] at h; cases h
    | true =>
      rw [ee_ct hb] at h
      have hlt : S.1 < 1100 := Nat.le_of_ble_eq_true hb
      have hsc := ee_sc_all hyM hlt hi
      cases c1 : (Nat.ble (nat_lit 39) op && Nat.ble op (nat_lit 42)) with
      | true =>
        rw [ee_ct c1] at h
        rw [Bool.and_eq_true] at c1
        have g1 : 39 ≤ op := Nat.le_of_ble_eq_true c1.1
        have g2 : op ≤ 42 := Nat.le_of_ble_eq_true c1.2
        cases c2 : Nat.ble (nat_lit 1) b with
        | false => rw [ee_cf c2] at h; cases h
        | true =>
          rw [ee_ct c2] at h
          exact ab_cls1_snd (by omega) hR hd0 hcap hmask hXX hC hsc (Nat.le_of_ble_eq_true c2) hK h k
      | false =>
        rw [ee_cf c1] at h
        cases c3 : Nat.beq op (nat_lit 38) with
        | true =>
          rw [ee_ct c3] at h
          have e9 : op = 38 := Nat.eq_of_beq_eq_true c3
          subst e9
          obtain ⟨pc9, r9⟩ := S
          exact as_38 hR hd0 hC hsc h k
        | false =>
          rw [ee_cf c3] at h
          cases c4 : Nat.beq op (nat_lit 55) with
          | true =>
            rw [ee_ct c4] at h
            have e9 : op = 55 := Nat.eq_of_beq_eq_true c4
            subst e9
            obtain ⟨pc9, r9⟩ := S
            exact as_55 hR hd0 hcap hC hsc h k
          | false =>
            rw [ee_cf c4] at h
            cases c76 : Nat.beq op (nat_lit 76) with
            | true =>
              rw [ee_ct c76] at h
              have e9 : op = 76 := Nat.eq_of_beq_eq_true c76
              subst e9
              obtain ⟨pc9, r9⟩ := S
              exact as_76 hR hd0 hcap hC hsc h k
            | false =>
            rw [ee_cf c76] at h
            cases c43 : Nat.beq op (nat_lit 43) with
            | true =>
              rw [ee_ct c43, ← hmask] at h
              have e9 : op = 43 := Nat.eq_of_beq_eq_true c43
              subst e9
              obtain ⟨pc9, r9⟩ := S
              exact as_43 hR hd0 hnc hcok hC hsc h k
            | false =>
            rw [ee_cf c43] at h
            cases c34 : Nat.beq op (nat_lit 34) with
            | true =>
              rw [ee_ct c34] at h
              have e9 : op = 34 := Nat.eq_of_beq_eq_true c34
              subst e9
              obtain ⟨pc9, r9⟩ := S
              split at h
              · rename_i L9 hL9
                cases h
                exact as_34x hxt hC hsc hL9 k
              · exact as_34 hC hsc h k
            | false =>
            rw [ee_cf c34] at h
            cases c28 : Nat.beq op (nat_lit 28) with
            | true =>
              rw [ee_ct c28] at h
              have e9 : op = 28 := Nat.eq_of_beq_eq_true c28
              subst e9
              obtain ⟨pc9, r9⟩ := S
              split at h
              · rename_i L9 hL9
                cases h
                exact as_28x hxt hC hsc hL9 k
              · exact as_28 (Or.inl ⟨rfl, rfl⟩) hC hsc h k
            | false =>
            rw [ee_cf c28, ← hmask] at h
            cases c5 : ab_wop op with
            | false =>
              rw [ee_cf c5] at h
              exact ab_step_snd hcap hnc hcok hcok2 hC hsc h k
            | true =>
              rw [ee_ct c5] at h
              split at h
              · rename_i L9 hL9
                cases h
                exact ab_step_snd hcap hnc hcok hcok2 hC hsc hL9 (fun S' h' => ab_acl_snd (k _ (ab_map_in h')))
              · cases h
  · cases h
theorem ab_adx_snd (hxt : xt[1]? = some (some ab_rnd)) (hR : d ≤ R.frames ∧ 40 * d ≤ R.locals) (hd0 : 0 < d) (hcap : cC + (6144 - sv0.2.2.2.2.2 / 1024) ≤ R.cells ∧ cS + (6291456 - sv0.2.2.2.2.2) ≤ R.slots) (hmask : sv0.2.2.1 = ab_wm mask) (hXX : sv0.2.2.2.2.1 = X) (hnc : ∀ κ, ab_nc κ = true → cls κ = []) (hcok : ab_cok cls) (hcok2 : ab_cok2 cls) (hC : ee_C p s m args meth c D dA xa xt B y) (hyM : y < ee_nM) (hK : ∀ K ∈ Ks, ab_CT cls l D dA xa xt B K ∧ K.1.2 < d) :
    ∀ {L0 L : List ab_S}, ab_adx cls cC cS mask X Ks hk y L0 = some L → (∀ S ∈ L, ab_WS cls p l e R s m args below meth c Q D dA xa B rv0 sv0 y S) → ∀ S ∈ L0, ab_WS cls p l e R s m args below meth c Q D dA xa B rv0 sv0 y S
  | [], L, h, k, S, hS => by cases hS
  | S0 :: L0, L, h, k, S, hS => by
    unfold ab_adx at h
    split at h
    · rename_i L1 h1
      split at h
      · rename_i L2 h2
        cases h
        rw [ab_app_eq] at k
        rcases List.mem_cons.mp hS with rfl | hS
        · exact ab_one_snd hxt hR hd0 hcap hmask hXX hnc hcok hcok2 hC hyM hK h1 (fun S' h' => k S' (List.mem_append_left _ h'))
        · exact ab_adx_snd hxt hR hd0 hcap hmask hXX hnc hcok hcok2 hC hyM hK h2 (fun S' h' => k S' (List.mem_append_right _ h')) S hS
      · cases h
    · cases h
theorem ab_rn_snd {stop : Nat → Bool} {fin : ab_S → Bool} (hxt : xt[1]? = some (some ab_rnd)) (hR : d ≤ R.frames ∧ 40 * d ≤ R.locals) (hd0 : 0 < d) (hcap : cC + (6144 - sv0.2.2.2.2.2 / 1024) ≤ R.cells ∧ cS + (6291456 - sv0.2.2.2.2.2) ≤ R.slots) (hmask : sv0.2.2.1 = ab_wm mask) (hXX : sv0.2.2.2.2.1 = X) (hnc : ∀ κ, ab_nc κ = true → cls κ = []) (hcok : ab_cok cls) (hcok2 : ab_cok2 cls) (hC : ee_C p s m args meth c D dA xa xt B y) (hyM : y < ee_nM) (hK : ∀ K ∈ Ks, ab_CT cls l D dA xa xt B K ∧ K.1.2 < d)
    (k : ∀ S, fin S = true → ab_WS cls p l e R s m args below meth c Q D dA xa B rv0 sv0 y S) : ∀ {n : Nat} {ws : List ab_S}, ab_rn cls cC cS mask X Ks hk ht y stop fin n ws = true → ∀ S ∈ ws, ab_WS cls p l e R s m args below meth c Q D dA xa B rv0 sv0 y S
  | n, [], h, S, hS => by cases hS
  | 0, _ :: _, h, S, hS => by cases h
  | n + 1, S0 :: w, h, S, hS => by
    unfold ab_rn at h
    cases c1 : stop S0.1 with
    | true =>
      rw [ee_ct c1] at h
      cases c2 : fin S0 with
      | false => rw [ee_cf c2] at h; cases h
      | true =>
        rw [ee_ct c2] at h
        rcases List.mem_cons.mp hS with rfl | hS
        · exact k _ c2
        · exact ab_rn_snd hxt hR hd0 hcap hmask hXX hnc hcok hcok2 hC hyM hK k h S hS
    | false =>
      rw [ee_cf c1] at h
      split at h
      · rename_i L hL
        have h9 := ab_rn_snd hxt hR hd0 hcap hmask hXX hnc hcok hcok2 hC hyM hK k h
        rw [ab_app_eq] at h9
        rcases List.mem_cons.mp hS with rfl | hS
        · exact ab_hps_snd hmask hXX (ab_adx_snd hxt hR hd0 hcap hmask hXX hnc hcok hcok2 hC hyM hK hL (fun S' h' => h9 S' (List.mem_append_left _ h'))) _ List.mem_cons_self
        · exact h9 S (List.mem_append_right _ hS)
      · cases h
theorem ab_rn0_snd {stop : Nat → Bool} {fin : ab_S → Bool} (hxt : xt[1]? = some (some ab_rnd)) (hR : d ≤ R.frames ∧ 40 * d ≤ R.locals) (hd0 : 0 < d) (hcap : cC + (6144 - sv0.2.2.2.2.2 / 1024) ≤ R.cells ∧ cS + (6291456 - sv0.2.2.2.2.2) ≤ R.slots) (hmask : sv0.2.2.1 = ab_wm mask) (hXX : sv0.2.2.2.2.1 = X) (hnc : ∀ κ, ab_nc κ = true → cls κ = []) (hcok : ab_cok cls) (hcok2 : ab_cok2 cls) (hC : ee_C p s m args meth c D dA xa xt B y) (hyM : y < ee_nM) (hK : ∀ K ∈ Ks, ab_CT cls l D dA xa xt B K ∧ K.1.2 < d)
    (k : ∀ S, fin S = true → ab_WS cls p l e R s m args below meth c Q D dA xa B rv0 sv0 y S) {n : Nat} {S : ab_S} (h : ab_rn0 cls cC cS mask X Ks hk ht y stop fin n S = true) : ab_WS cls p l e R s m args below meth c Q D dA xa B rv0 sv0 y S := by
  unfold ab_rn0 at h
  split at h
  · rename_i L hL
    exact ab_hps_snd hmask hXX (ab_adx_snd hxt hR hd0 hcap hmask hXX hnc hcok hcok2 hC hyM hK hL (ab_rn_snd hxt hR hd0 hcap hmask hXX hnc hcok hcok2 hC hyM hK k h)) _ List.mem_cons_self
  · cases h
end RN2
