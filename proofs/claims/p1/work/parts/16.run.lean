/-! ===== whole runs ===== -/
def ee_exe (xt : ee_X) : Nat → Nat → List ee_V → ee_H → Option ee_R
  | 0, _, _, _ => none
  | d + 1, y, As, h => bif Nat.beq y ee_yk then ee_cop As h else bif Nat.blt (nat_lit 0) y && (Nat.blt y ee_nM && Nat.beq (ee_len As) (ee_na y)) then ee_loop (ee_exe xt d) xt d y (nat_lit 1000000) (nat_lit 0, ee_pad As (ee_ml y), [], h, nat_lit 0, nat_lit 0) else none
theorem ee_pad_get {As : List ee_V} : ∀ {n i : Nat} {a : ee_V}, (ee_pad As n)[i]? = some a → a = .inr (.inr 0) ∨ As[i]? = some a := by
  induction As with
  | nil =>
    intro n i a h
    have h' : (List.replicate n (.inr (.inr (nat_lit 0)) : ee_V))[i]? = some a := h
    have := List.mem_of_getElem? h'
    exact Or.inl (List.eq_of_mem_replicate this)
  | cons b l ih =>
    intro n i a h
    have h' : (b :: ee_pad l (Nat.pred n))[i]? = some a := h
    cases i with
    | zero => exact Or.inr (by simpa using h')
    | succ i =>
      have h2 : (ee_pad l (Nat.pred n))[i]? = some a := by simpa using h'
      rcases ih h2 with q | q
      · exact Or.inl q
      · exact Or.inr (by simpa using q)
theorem ee_pad_len {As : List ee_V} : ∀ {n : Nat}, As.length ≤ n → (ee_pad As n).length = n := by
  induction As with
  | nil => intro n _; exact List.length_replicate
  | cons b l ih =>
    intro n h
    show (b :: ee_pad l (Nat.pred n)).length = n
    have h2 : l.length + 1 ≤ n := by simpa using h
    rw [List.length_cons, ih (n := Nat.pred n) (by show l.length ≤ n - 1; omega)]
    show n - 1 + 1 = n
    omega
theorem ee_args_in {ad xa : List Nat} : ∀ {vs : List Value} {As : List ee_V}, ee_a2 (ee_ok ad xa) vs As → ∀ (base i : Nat) (a : ee_V), As[i]? = some a → ∃ v, (base + i, v) ∈ lv_args base vs ∧ ee_ok ad xa v a
  | [], [], _, base, i, a, h => by simp at h
  | v :: vs, b :: As, hh, base, 0, a, h => by
    have : b = a := by simpa using h
    subst this
    exact ⟨v, List.mem_cons_self, hh.1⟩
  | v :: vs, b :: As, hh, base, i + 1, a, h => by
    have h2 : As[i]? = some a := by simpa using h
    have hc : v.category = 1 := ee_ok_cat1 hh.1
    obtain ⟨w, h3, h4⟩ := ee_args_in hh.2 (base + 1) i a h2
    refine ⟨w, ?_, h4⟩
    show (base + (i + 1), w) ∈ (base, v) :: lv_args (if v.category = 2 then base + 2 else base + 1) vs
    rw [if_neg (by rw [hc]; decide), show base + (i + 1) = base + 1 + i by omega]
    exact List.mem_cons_of_mem _ h3
theorem ee_sl_len {ad xa : List Nat} : ∀ {vs : List Value} {As : List ee_V}, ee_a2 (ee_ok ad xa) vs As → (lg_sl vs).length = vs.length
  | [], [], _ => rfl
  | v :: vs, b :: As, hh => by
    have hc : v.category = 1 := ee_ok_cat1 hh.1
    have ih := ee_sl_len hh.2
    show ((if v.category = 2 then [Slot.val v, Slot.second] else [Slot.val v]) ++ lg_sl vs).length = _
    rw [if_neg (by rw [hc]; decide), List.length_append, ih]
    simp only [List.length_cons, List.length_nil]
    omega
section ERN
variable {p : Program} {l : Launch} {e : Env} {R : Room} {s : State} {m : MethodId} {args : Array Value} {below : List Frame} {meth : Method} {c : Code} {D : va_G} {dA : Nat → ClassId} {xa : List Nat} {xt : ee_X} {B : Nat} {ad0 : List Nat} {y : Nat}
theorem es_ret {pc : Nat} {i : ee_I} {r : List ee_V × List ee_V × ee_H × Nat × Nat} {rv : Option ee_V} {h' : ee_H} {c' s' : Nat} (hy1 : 1 ≤ y) (hC : ee_C p s m args meth c D dA xa xt B y) (hs : ee_sc y pc i = true) (hop : 51 ≤ i.1 ∧ i.1 ≤ 53) (h : ee_ret y i.1 (pc, r) = some (rv, h', c', s')) :
    r.2.2.2.1 = c' ∧ r.2.2.2.2 = s' ∧ ee_WS p l e R s m args below meth c (MQ below (ee_Post D dA xa B ad0 rv h') args s c' s' (fun q => B ≤ q)) D dA xa B ad0 y (pc, r) := by
  obtain ⟨q, hq, hd, hn, hx, -⟩ := ee_sc_spec hs
  obtain ⟨he, hb, hml, hown, hts, hG, hB, hlk, hrt, hnm, hyM⟩ := id hC
  obtain ⟨m1, m2, m3, m4, m5, m6, m7, m8, m9, m10, m11, m12, m13⟩ := ee_mth hy1 hyM
  obtain ⟨op, a, b, n⟩ := i
  unfold ee_ret at h
  split at h
  · rename_i x1 x2 x3 heq
    cases heq
    cases h1 : (Nat.beq op (nat_lit 53) && Nat.beq (ee_rk y) (nat_lit 0)) with
    | false => rw [ee_cf h1] at h; cases h
    | true =>
      rw [ee_ct h1] at h
      rw [Bool.and_eq_true] at h1
      have e1 : op = 53 := Nat.eq_of_beq_eq_true h1.1
      have e2 : ee_rk y = 0 := Nat.eq_of_beq_eq_true h1.2
      subst e1
      cases h
      cases (show some (Instr.return_, 1) = some q from hq)
      have hr0 : ee_rt y = none := by
        rw [e2] at m13
        split at m13 <;> first | assumption | (exfalso; revert m13; decide)
      refine ⟨rfl, rfl, ?_⟩
      intro ad ws H locs ls vs hp hwd hP hD hS hl hv
      match vs, hv with
      | [], _ =>
        exact W.vret he hb (hrt.trans hr0) (fun t ht hW => ⟨⟨none, ad, ws, rfl, trivial, hp, hwd, by rw [ht]; exact hP, hD⟩, hS.F ht⟩) hS.2.2 hd hlk
  · rename_i x1 x2 w x3 heq
    cases heq
    cases h1 : (Nat.beq op (nat_lit 51) && (Nat.beq (ee_rk y) (nat_lit 1) || (Nat.beq (ee_rk y) (nat_lit 2) && (Nat.ble (nat_lit 2147483648) w.1 && Nat.ble w.2 (nat_lit 2147483649))))) with
    | false => rw [ee_cf h1] at h; cases h
    | true =>
      rw [ee_ct h1] at h
      rw [Bool.and_eq_true, Bool.or_eq_true, Bool.and_eq_true, Bool.and_eq_true] at h1
      have e1 : op = 51 := Nat.eq_of_beq_eq_true h1.1
      subst e1
      cases h
      cases (show some (Instr.ireturn, 1) = some q from hq)
      refine ⟨rfl, rfl, ?_⟩
      intro ad ws H locs ls vs hp hwd hP hD hS hl hv
      match vs, hv with
      | [v], ⟨⟨xv, ev, hxv⟩, _⟩ =>
        subst ev
        have fin : ∀ ty, ee_rt y = some ty → narrow ty (.int xv) = .int xv → W p l e R s m args below meth c H locs c' s' (MQ below (ee_Post D dA xa B ad0 (some (.inl w)) h') args s c' s' (fun q => B ≤ q)) (F0 m pc ls [.int xv]) := fun ty hty hnar =>
          W.zret he hb (hrt.trans hty) hnar (fun t ht hW => ⟨⟨some (.int xv), ad, ws, rfl, ⟨xv, rfl, hxv⟩, hp, hwd, by rw [ht]; exact hP, hD⟩, hS.F ht⟩) hS.2.2 hd hlk
        rcases h1.2 with h2 | ⟨h2, h3, h4⟩
        · have e2 : ee_rk y = 1 := Nat.eq_of_beq_eq_true h2
          have hr0 : ee_rt y = some .int := by
            rw [e2] at m13
            split at m13 <;> first | assumption | (exfalso; revert m13; decide)
          exact fin _ hr0 rfl
        · have e2 : ee_rk y = 2 := Nat.eq_of_beq_eq_true h2
          have hr0 : ee_rt y = some .boolean := by
            rw [e2] at m13
            split at m13 <;> first | assumption | (exfalso; revert m13; decide)
          have q1 : 2147483648 ≤ w.1 := Nat.le_of_ble_eq_true h3
          have q2 : w.2 ≤ 2147483649 := Nat.le_of_ble_eq_true h4
          have z1 := hxv.1
          have z2 := hxv.2
          have hz0 := ee_z0
          have hz1 : ee_z 1 = 2147483649 := by decide +kernel
          refine fin _ hr0 ?_
          rcases (show ee_z xv = 2147483648 ∨ ee_z xv = 2147483649 by omega) with h9 | h9
          · have : xv = 0 := ee_zinj (by omega)
            subst this
            decide +kernel
          · have : xv = 1 := ee_zinj (by omega)
            subst this
            decide +kernel
  · rename_i x1 x2 w x3 heq
    cases heq
    cases h1 : (Nat.beq op (nat_lit 52) && (Nat.beq (ee_rk y) (nat_lit 3) && ee_isr (.inr w))) with
    | false => rw [ee_cf h1] at h; cases h
    | true =>
      rw [ee_ct h1] at h
      rw [Bool.and_eq_true, Bool.and_eq_true] at h1
      have e1 : op = 52 := Nat.eq_of_beq_eq_true h1.1
      have e2 : ee_rk y = 3 := Nat.eq_of_beq_eq_true h1.2.1
      subst e1
      cases h
      cases (show some (Instr.areturn, 1) = some q from hq)
      refine ⟨rfl, rfl, ?_⟩
      have hr0 : ∃ t, ee_rt y = some t ∧ ((∃ n, t = .object n) ∨ ∃ z, t = .array z) := by
        rw [e2] at m13
        split at m13
        all_goals first
          | (exfalso; revert m13; decide)
          | exact ⟨_, by assumption, Or.inl ⟨_, rfl⟩⟩
          | exact ⟨_, by assumption, Or.inr ⟨_, rfl⟩⟩
      obtain ⟨ty, hty, hty2⟩ := hr0
      intro ad ws H locs ls vs hp hwd hP hD hS hl hv
      match vs, hv with
      | [v], ⟨hok, _⟩ =>
        exact W.aret he hb (hrt.trans hty) hty2 (ee_ok_ref h1.2.2 hok) (fun t ht hW => ⟨⟨some v, ad, ws, rfl, hok, hp, hwd, by rw [ht]; exact hP, hD⟩, hS.F ht⟩) hS.2.2 hd hlk
  · cases h
theorem ee_loop_snd {d : Nat} {call : Nat → List ee_V → ee_H → Option ee_R} {rv : Option ee_V} {h' : ee_H} {c' s' : Nat} (hy1 : 1 ≤ y) (hR : d ≤ R.frames ∧ 40 * d ≤ R.locals) (hcall : ee_CS l D dA xa xt B d call) (hC : ee_C p s m args meth c D dA xa xt B y) (hcap : c' ≤ R.cells ∧ s' ≤ R.slots) :
    ∀ (f : Nat) (S : ee_S), ee_loop call xt d y f S = some (rv, h', c', s') → (S.2.2.2.2.1 ≤ c' ∧ S.2.2.2.2.2 ≤ s') ∧ ee_WS p l e R s m args below meth c (MQ below (ee_Post D dA xa B ad0 rv h') args s c' s' (fun q => B ≤ q)) D dA xa B ad0 y S := by
  intro f
  induction f with
  | zero => intro S h; cases h
  | succ f ih =>
    intro S h
    obtain ⟨pc, r⟩ := S
    unfold ee_loop at h
    rw [ee_f_eq] at h
    cases hpc : Nat.blt pc (nat_lit 1100) with
    | false => rw [ee_cf hpc] at h; cases h
    | true =>
      rw [ee_ct hpc] at h
      have hpc' : pc < 1100 := Nat.le_of_ble_eq_true hpc
      split at h
      · cases h
      · rename_i i hi
        have hsc : ee_sc y pc i = true := ee_sc_all hC.2.2.2.2.2.2.2.2.2.2 hpc' hi
        cases hop : (Nat.ble (nat_lit 51) i.1 && Nat.ble i.1 (nat_lit 53)) with
        | true =>
          rw [ee_ct hop] at h
          rw [Bool.and_eq_true] at hop
          obtain ⟨e1, e2, hw⟩ := es_ret (R := R) (l := l) (e := e) (below := below) (ad0 := ad0) hy1 hC hsc ⟨Nat.le_of_ble_eq_true hop.1, Nat.le_of_ble_eq_true hop.2⟩ h
          exact ⟨⟨Nat.le_of_eq e1, Nat.le_of_eq e2⟩, hw⟩
        | false =>
          rw [ee_cf hop] at h
          split at h
          · cases h
          · rename_i S1 hS1
            obtain ⟨hle, hw⟩ := ih S1 h
            have hmono := ee_step_mono (ee_sc_spec hsc).choose_spec.2.2.2.2 hS1
            refine ⟨⟨Nat.le_trans hmono.1 hle.1, Nat.le_trans hmono.2 hle.2⟩, ?_⟩
            exact ee_step_snd hR hcall hC hsc hS1 ⟨Nat.le_trans hle.1 hcap.1, Nat.le_trans hle.2 hcap.2⟩ hw
/-- a stretch of a method, to a given place -/
theorem ee_go_snd {d stop : Nat} {call : Nat → List ee_V → ee_H → Option ee_R} {Q : State → Prop} {S' : ee_S} (hR : d ≤ R.frames ∧ 40 * d ≤ R.locals) (hcall : ee_CS l D dA xa xt B d call) (hC : ee_C p s m args meth c D dA xa xt B y) (hcap : S'.2.2.2.2.1 ≤ R.cells ∧ S'.2.2.2.2.2 ≤ R.slots) (k : ee_WS p l e R s m args below meth c Q D dA xa B ad0 y S') :
    ∀ (f : Nat) (S : ee_S), ee_go call xt d y stop f S = some S' → ee_le S S' ∧ ee_WS p l e R s m args below meth c Q D dA xa B ad0 y S := by
  intro f
  induction f with
  | zero => intro S h; cases h
  | succ f ih =>
    intro S h
    obtain ⟨pc, r⟩ := S
    unfold ee_go at h
    rw [ee_f_eq] at h
    cases hpc : Nat.blt pc (nat_lit 1100) with
    | false => rw [ee_cf hpc] at h; cases h
    | true =>
      rw [ee_ct hpc] at h
      have hpc' : pc < 1100 := Nat.le_of_ble_eq_true hpc
      split at h
      · cases h
      · rename_i i hi
        have hsc : ee_sc y pc i = true := ee_sc_all hC.2.2.2.2.2.2.2.2.2.2 hpc' hi
        split at h
        · cases h
        · rename_i S1 hS1
          have hmono := ee_step_mono (ee_sc_spec hsc).choose_spec.2.2.2.2 hS1
          cases hst : Nat.beq S1.1 stop with
          | true =>
            rw [ee_ct hst] at h
            cases h
            exact ⟨hmono, ee_step_snd hR hcall hC hsc hS1 hcap k⟩
          | false =>
            rw [ee_cf hst] at h
            obtain ⟨hle, hw⟩ := ih S1 h
            exact ⟨⟨Nat.le_trans hmono.1 hle.1, Nat.le_trans hmono.2 hle.2⟩, ee_step_snd hR hcall hC hsc hS1 ⟨Nat.le_trans hle.1 hcap.1, Nat.le_trans hle.2 hcap.2⟩ hw⟩
end ERN
/-- a method's contract out of its walk -/
theorem ee_met {l : Launch} {D : va_G} {dA : Nat → ClassId} {xa : List Nat} {xt : ee_X} {B : Nat} {ad : List Nat} {y d c' s' : Nat} {As : List ee_V} {h h' : ee_H} {rv : Option ee_V} (hy1 : 1 ≤ y) (hyM : y < ee_nM) (hlen : As.length = ee_na y)
    (body : ∀ (p : Program) (e : Env) (s : State) (m : MethodId) (args : Array Value) (below : List Frame) (meth : Method) (c : Code), ee_C p s m args meth c D dA xa xt B y → ee_WS p l e (ee_rm d c' s') s m args below meth c (MQ below (ee_Post D dA xa B ad rv h') args s c' s' (fun q => B ≤ q)) D dA xa B ad y (nat_lit 0, ee_pad As (ee_ml y), [], h, nat_lit 0, nat_lit 0)) :
    Met l (ee_yn y) (ee_wsy y) (ee_rm d c' s') (ee_Pre D dA xa xt B ad As h) (ee_Post D dA xa B ad rv h') c' s' (fun q => B ≤ q) := by
  obtain ⟨m1, m2, m3, m4, m5, m6, m7, m8, m9, m10, m11, m12, m13⟩ := ee_mth hy1 hyM
  refine Met.ofW (cc := ee_cb y) (maxL := ee_ml y) (ret := ee_rt y) m5 rfl ?_
  intro p e s m args below meth c s₁ Bd hml hv
  obtain ⟨vs, ws, rfl, hA, hwd, hP, hD, hG, hB⟩ := hv
  have hts0 := atoms_spec (ws := ee_wsy y) Bd.pre
  have hts : ∀ w ∈ ee_good, w.before vs.toArray s = true := fun w hw => hts0 w (List.mem_cons_of_mem _ hw)
  have hown : s.vm.findClass (ee_on.getD (ee_yc y) "") = some m.cls := by rw [m9]; exact findClass_of_methodNamed Bd.named
  have hC : ee_C p s m vs.toArray meth c D dA xa xt B y := ⟨Bd.exec, Bd.bytes, hml, hown, hts, hG, hB, Bd.notSynchronized, Bd.returns, (name_of_methodNamed Bd.named Bd.method).1, hyM⟩
  have hlv := ee_a2_len hA
  have hsl := ee_sl_len hA
  have hle : (lg_sl vs).length ≤ ee_ml y := by omega
  have hl := lv_entry vs (n := ee_ml y) hle
  rw [lg_entry_eq]
  refine body p e s m vs.toArray below meth c hC ad ws s.heap [] _ [] (List.prefix_refl ad) hwd hP hD va_S.rf ⟨ee_pad_len (by omega), _, hl, fun i a ha => ?_⟩ trivial
  rcases ee_pad_get ha with q | q
  · exact Or.inl q
  · obtain ⟨v, h1, h2⟩ := ee_args_in hA 0 i a q
    rw [Nat.zero_add] at h1
    exact Or.inr ⟨v, h1, h2⟩
/-- what the copies of the reference are owed -/
def ee_CK (l : Launch) (D : va_G) (dA : Nat → ClassId) (xa : List Nat) (xt : ee_X) (B : Nat) : Prop := ∀ (d : Nat) (As : List ee_V) (h h' : ee_H) (rv : Option ee_V) (c' s' : Nat), ee_cop As h = some (rv, h', c', s') → ∀ ad : List Nat, Met l (ee_yn ee_yk) (ee_wsy ee_yk) (ee_rm d c' s') (ee_Pre D dA xa xt B ad As h) (ee_Post D dA xa B ad rv h') c' s' (fun q => B ≤ q)
theorem ee_exe_snd {l : Launch} {D : va_G} {dA : Nat → ClassId} {xa : List Nat} {xt : ee_X} {B : Nat} (hck : ee_CK l D dA xa xt B) : ∀ d, ee_CS l D dA xa xt B d (ee_exe xt d) := by
  intro d
  induction d with
  | zero => intro y As h rv h' c' s' hh; cases hh
  | succ d ih =>
    intro y As h rv h' c' s' hh
    unfold ee_exe at hh
    cases hk : Nat.beq y ee_yk with
    | true =>
      rw [ee_ct hk] at hh
      have e1 : y = ee_yk := Nat.eq_of_beq_eq_true hk
      subst e1
      exact ⟨Nat.succ_le_succ (Nat.zero_le d), by decide, by decide, hck d As h h' rv c' s' hh⟩
    | false =>
      rw [ee_cf hk] at hh
      cases hc : (Nat.blt (nat_lit 0) y && (Nat.blt y ee_nM && Nat.beq (ee_len As) (ee_na y))) with
      | false => rw [ee_cf hc] at hh; cases hh
      | true =>
        rw [ee_ct hc] at hh
        rw [Bool.and_eq_true, Bool.and_eq_true, ee_len_eq] at hc
        have hy1 : 1 ≤ y := Nat.le_of_ble_eq_true hc.1
        have hyM : y < ee_nM := Nat.le_of_ble_eq_true hc.2.1
        have hlen : As.length = ee_na y := Nat.eq_of_beq_eq_true hc.2.2
        refine ⟨Nat.succ_le_succ (Nat.zero_le d), hy1, hyM, fun ad => ?_⟩
        refine ee_met hy1 hyM hlen ?_
        intro p e s m args below meth c hC
        exact (ee_loop_snd (R := ee_rm d c' s') hy1 ⟨Nat.le_refl _, Nat.le_refl _⟩ ih hC ⟨Nat.le_refl _, Nat.le_refl _⟩ _ _ hh).2
