section ES7
variable {p : Program} {l : Launch} {e : Env} {R : Room} {s : State} {m : MethodId} {args : Array Value} {below : List Frame} {meth : Method} {c : Code} {Q : State → Prop} {D : va_G} {dA : Nat → ClassId} {xa : List Nat} {xt : ee_X} {B : Nat} {ad0 : List Nat} {y : Nat}
variable {pc a b n : Nat} {r : List ee_V × List ee_V × ee_H × Nat × Nat} {S' : ee_S}
/-- what a call asks of its receiver -/
def ee_rcv (hh : ee_H) (inst virt : Bool) (y : Nat) (As : List ee_V) : Bool := bif inst then (match As with
          | .inr (.inl (k + 1)) :: _ => (bif virt then (match ee_get hh k with
              | some (.inl nd) => Nat.beq nd.1 (ee_yc y)
              | _ => false) else true)
          | _ => false) else true
theorem ee_rcv_spec {hh : ee_H} {inst virt : Bool} {As : List ee_V} (h : ee_rcv hh inst virt b As = true) : inst = true → ∃ k rest, As = .inr (.inl (k + 1)) :: rest ∧ (virt = true → ∃ nd, ee_get hh k = some (.inl nd) ∧ nd.1 = ee_yc b) := by
  intro hi
  subst hi
  unfold ee_rcv at h
  rw [ee_ct rfl] at h
  split at h
  · rename_i k rest
    refine ⟨k, rest, rfl, fun hv => ?_⟩
    subst hv
    rw [ee_ct rfl] at h
    split at h
    · rename_i nd hnd
      exact ⟨nd, hnd, Nat.eq_of_beq_eq_true h⟩
    · cases h
  · cases h
theorem ee_o39_spec {call : Nat → List ee_V → ee_H → Option ee_R} {inst virt : Bool} {lo st : List ee_V} {hh : ee_H} {cc sl : Nat} (h : ee_o39 call inst virt b n (pc, lo, st, hh, cc, sl) = some S') :
    ∃ (As st' : List ee_V) (rv : Option ee_V) (h' : ee_H) (c' s' : Nat), ee_take (bif inst then Nat.succ (ee_np b) else ee_np b) st [] = some (As, st') ∧ st'.length ≤ 8 ∧ ee_rcv hh inst virt b As = true ∧ call b As hh = some (rv, h', c', s') ∧ S' = (Nat.add pc n, lo, rv.toList ++ st', h', cc + c', sl + s') := by
  unfold ee_o39 at h
  dsimp only at h
  split at h
  · cases h
  · rename_i As st' htk
    change (cond (Nat.ble (ee_len st') (nat_lit 8) && ee_rcv hh inst virt b As) (match call b As hh with
          | some (some v, h', c', s') => bif ee_isv v then ee_f (Nat.add cc c') fun c1 => ee_f (Nat.add sl s') fun s1 => some (Nat.add pc n, lo, v :: st', h', c1, s1) else none
          | some (none, h', c', s') => ee_f (Nat.add cc c') fun c1 => ee_f (Nat.add sl s') fun s1 => some (Nat.add pc n, lo, st', h', c1, s1)
          | none => none) none) = some S' at h
    cases h1 : (Nat.ble (ee_len st') (nat_lit 8) && ee_rcv hh inst virt b As) with
    | false => rw [ee_cf h1] at h; cases h
    | true =>
      rw [ee_ct h1] at h
      rw [Bool.and_eq_true, ee_len_eq] at h1
      have h8 : st'.length ≤ 8 := Nat.le_of_ble_eq_true h1.1
      split at h
      · rename_i v h' c' s' hcl
        cases hv : ee_isv v with
        | false => rw [ee_cf hv] at h; cases h
        | true =>
          rw [ee_ct hv] at h
          simp only [ee_f_eq] at h
          cases h
          exact ⟨As, st', some v, h', c', s', htk, h8, h1.2, hcl, rfl⟩
      · rename_i h' c' s' hcl
        simp only [ee_f_eq] at h
        cases h
        exact ⟨As, st', none, h', c', s', htk, h8, h1.2, hcl, rfl⟩
      · cases h
theorem ee_words (hts : ∀ w ∈ ee_good, w.before args s = true) (h1 : 1 ≤ b) (h2 : b < ee_nM) : ∀ w ∈ ee_wsy b, ∀ (a' : Array Value) (U : State), s.WarmedH U.vm → w.before a' U = true := by
  intro w hw a' U hW
  have hw' : w ∈ ee_good := by
    rcases List.mem_cons.mp hw with rfl | h
    · exact (ee_mth h1 h2).1
    · exact h
  exact word_at hW (good_of_word (List.mem_filter.mp hw').2) (hts w hw')
theorem ee_preU {ad : List Nat} {ws : va_W} {H : Heap} {locs : List Loc} {As : List ee_V} {vAs : List Value} {hh : ee_H} (hC : ee_C p s m args meth c D dA xa xt B y) (hwd : ee_wd dA ad xa ws hh) (hP : va_P D ee_cl ws H) (hD : va_D (fun q => B ≤ q) ws) (hS : va_S (fun q => B ≤ q) s.heap H locs) (hA : ee_a2 (ee_ok ad xa) vAs As) :
    ∀ U : State, U.heap = H → s.WarmedH U.vm → ee_Pre D dA xa xt B ad As hh vAs.toArray U := by
  intro U hU hW
  obtain ⟨-, -, -, -, -, hG, hB, -⟩ := hC
  refine ⟨vAs, ws, rfl, hA, hwd, by rw [hU]; exact hP, hD, ee_G_warm hW (fun q hq => ?_) hG, ?_⟩
  · rw [hU]
    exact hS.2.1 q (Nat.lt_of_lt_of_le hq hB) (Nat.not_le.mpr hq)
  · rw [hU]
    exact Nat.le_trans hB hS.1
/-- a call, whatever its kind -/
theorem es_o39 {op d : Nat} {inst virt : Bool} {call : Nat → List ee_V → ee_H → Option ee_R} (hop : (op = 39 ∧ inst = true ∧ virt = false) ∨ (op = 40 ∧ inst = true ∧ virt = true) ∨ (op = 41 ∧ inst = false) ∨ (op = 42 ∧ inst = false)) (hR : d ≤ R.frames ∧ 40 * d ≤ R.locals) (hcall : ee_CS l D dA xa xt B d call) (hC : ee_C p s m args meth c D dA xa xt B y) (hs : ee_sc y pc (op, a, b, n) = true) (h : ee_o39 call inst virt b n (pc, r) = some S') (hcap : S'.2.2.2.2.1 ≤ R.cells ∧ S'.2.2.2.2.2 ≤ R.slots) (k : ee_WS p l e R s m args below meth c Q D dA xa B ad0 y S') : ee_WS p l e R s m args below meth c Q D dA xa B ad0 y (pc, r) := by
  obtain ⟨q, hq, hd, hn, hx, -⟩ := ee_sc_spec hs
  obtain ⟨he, hb, hml, hown, hts, hG, hB, -⟩ := id hC
  obtain ⟨lo, st, hh, cc, sl⟩ := r
  obtain ⟨As, st', rv, h', c', s', htk, hst8, hrcv, hcl, rfl⟩ := ee_o39_spec h
  have hn3 : n = 3 := by
    rcases hop with ⟨rfl, -⟩ | ⟨rfl, -⟩ | ⟨rfl, -⟩ | ⟨rfl, -⟩
    · cases (show some (Instr.invokespecial a, 3) = some q from hq); exact hn.symm
    · cases (show some (Instr.invokevirtual a, 3) = some q from hq); exact hn.symm
    · cases (show some (Instr.invokestatic a, 3) = some q from hq); exact hn.symm
    · cases (show some (Instr.invokestatic a, 3) = some q from hq); exact hn.symm
  subst hn3
  obtain ⟨P, hAP, hstP, hPlen⟩ := ee_take_eq htk
  rw [List.append_nil] at hAP
  subst hAP
  obtain ⟨d1, y1, yM, hM⟩ := hcall b As hh rv h' c' s' hcl
  obtain ⟨m1, m2, m3, m4, m5, m6, m7, m8, m9, m10, m11, m12, m13⟩ := ee_mth y1 yM
  have hcap1 : cc + c' ≤ R.cells := hcap.1
  have hcap2 : sl + s' ≤ R.slots := hcap.2
  have hfr : (ee_rm (d - 1) c' s').frames + 1 ≤ R.frames := by show d - 1 + 1 ≤ _; omega
  have hlo : 8 + (ee_ml b + 11) + (ee_rm (d - 1) c' s').locals ≤ R.locals := by show 8 + (ee_ml b + 11) + 40 * (d - 1) ≤ _; omega
  have hpar : ∀ sig, parseMethodDescriptor (ee_yn b).desc = some sig → ee_np b = sig.parameters.length := by
    intro sig hsig
    rw [hsig] at m8
    exact (Option.some.inj m8).symm
  intro ad ws H locs ls vs hp hwd hP hD hS hl hv
  have hv' : ee_a2 (ee_ok ad xa) vs (As.reverse ++ st') := by rw [← hstP]; exact hv
  obtain ⟨v1, vr, hvs, hv1, hvr⟩ := ee_a2_split hv'
  have hA : ee_a2 (ee_ok ad xa) v1.reverse As := by
    have := ee_a2_rev hv1
    rwa [List.reverse_reverse] at this
  obtain ⟨vAs, hvA⟩ : ∃ z, z = v1.reverse := ⟨_, rfl⟩
  rw [← hvA] at hA
  have hv1e : v1 = vAs.reverse := by rw [hvA, List.reverse_reverse]
  subst hvs
  rw [hv1e]
  have hlenA := ee_a2_len hA
  have hcat := ee_cats hvr
  have hsz : ls.size = ee_ml y := hl.2.choose_spec.1.1
  have hW8 : ∀ st0 : List Value, 2 * (F0 m pc ls st0).monitorRoom + (vr.map fun v => v.category).sum ≤ 8 := by
    intro st0
    show 2 * 0 + _ ≤ 8
    rw [hcat]; omega
  have hfin : ∀ (v : Option Value) (ad' : List Nat) (ws : va_W) (H1 : Heap) (locs1 : List Loc), ee_rv ad' xa v rv → ad <+: ad' → ee_wd dA ad' xa ws h' → va_P D ee_cl ws H1 → va_D (fun q => B ≤ q) ws → va_S (fun q => B ≤ q) s.heap H1 locs1 → W p l e R s m args below meth c H1 locs1 (cc + c') (sl + s') Q (F0 m (pc + 3) ls (v.toList ++ vr)) := by
    intro v ad' ws1 H1 locs1 hrv hpre hwd1 hP1 hD1 hS1
    refine k ad' ws1 H1 locs1 ls (v.toList ++ vr) (hp.trans hpre) hwd1 hP1 hD1 hS1 (ee_lo_mono hpre hl) ?_
    have hvr' := ee_a2_mono (fun _ _ => ee_ok_mono hpre) hvr
    match v, rv, hrv with
    | none, none, _ => exact hvr'
    | some v, some w, hrv => exact ⟨hrv, hvr'⟩
  have hCB : ∀ own, own = ee_on.getD (ee_yc y) "" → (Cond.methodLink own a (ee_yn b)).before args s = true → CallB R s args own a (ee_yn b) (ee_cb b) (ee_ml b) (ee_rt b) (ee_wsy b) (ee_rm (d - 1) c' s') c' s' (ee_np b) := by
    intro own ho hlk
    exact ⟨rfl, rfl, hfr, hlo, ee_words hts y1 yM, List.mem_cons_self, hts _ m1, hts _ m2, ⟨m6, m7⟩, hpar, hlk⟩
  have hfix : CallFix p m c (ee_cb y) (ee_ml y) s args ee_good (ee_on.getD (ee_yc y) "") := ⟨he, hb, hml, hown, hts⟩
  rcases hop with ⟨rfl, rfl, rfl⟩ | ⟨rfl, rfl, rfl⟩ | ⟨rfl, rfl⟩ | ⟨rfl, rfl⟩
  · cases (show some (Instr.invokespecial a, 3) = some q from hq)
    have hx' : (ee_rsq y a 2 b && (decide (b < ee_nM ∧ (ee_yn b).name = "<init>") && ee_isI b)) = true := hx
    rw [Bool.and_eq_true, Bool.and_eq_true] at hx'
    obtain ⟨-, hini⟩ := of_decide_eq_true hx'.2.1
    obtain ⟨k1, rest1, hAs, -⟩ := ee_rcv_spec hrcv rfl
    subst hAs
    match vAs, hA, hlenA with
    | vb :: vAs, ⟨⟨ax, hax, hvb⟩, hA2⟩, hlenA =>
      subst hvb
      have hrt : ee_rt b = none ∨ ∃ t, ee_rt b = some t := by cases ee_rt b with
        | none => exact Or.inl rfl
        | some t => exact Or.inr ⟨t, rfl⟩
      have hstk : ((Value.ref ax :: vAs).reverse ++ vr) = vAs.reverse ++ Value.ref ax :: vr := by simp
      rw [hstk]
      have hnone : ee_rt b = none := ee_initv yM y1 hini
      have hcb := hCB _ rfl (hts _ (ee_word hx'.1 (w := .methodLink (ee_on.getD (ee_yc y) "") a (ee_yn b)) (by decide) (by decide) (by decide) rfl))
      rw [hnone] at hcb
      refine ee_callk (va_runI (As := vAs) (rest := vr) (b := ax) hfix (hM ad) ⟨hcb, hini, hts _ (m4 hx'.2.2).1⟩ ⟨ee_blind, ee_preU hC hwd hP hD hS ⟨⟨ax, hax, rfl⟩, hA2⟩⟩ rfl ?_ hsz rfl (hW8 _) hd ⟨hcap1, hcap2⟩) hS hfin
      have h9 : (Nat.succ (ee_np b)) = rest1.length + 1 := by simpa using hPlen.symm
      have h10 : vAs.length + 1 = rest1.length + 1 := by simpa using hlenA
      omega
  · cases (show some (Instr.invokevirtual a, 3) = some q from hq)
    have hx' : (ee_rsq y a 2 b && (decide (b < ee_nM ∧ ee_yc b < ee_cl.length ∧ ¬ (ee_yn b).name = "<init>") && ee_isI b)) = true := hx
    rw [Bool.and_eq_true, Bool.and_eq_true] at hx'
    obtain ⟨-, hyc, hni⟩ := of_decide_eq_true hx'.2.1
    obtain ⟨k1, rest1, hAs, hnd0⟩ := ee_rcv_spec hrcv rfl
    obtain ⟨nd, hnd, hndc⟩ := hnd0 rfl
    subst hAs
    match vAs, hA, hlenA with
    | vb :: vAs, ⟨hok, hA2⟩, hlenA =>
      obtain ⟨ax, ex, hvb, hws, hax, hnode⟩ := ee_wd_at hwd hnd hok
      subst hvb
      obtain ⟨ci, fs⟩ := nd
      dsimp only at hndc
      subst hndc
      obtain ⟨vs9, rfl, -⟩ := hnode
      have hstk : ((Value.ref ax :: vAs).reverse ++ vr) = vAs.reverse ++ Value.ref ax :: vr := by simp
      rw [hstk]
      have hcb := hCB _ rfl (hts _ (ee_word hx'.1 (w := .methodLink (ee_on.getD (ee_yc y) "") a (ee_yn b)) (by decide) (by decide) (by decide) rfl))
      obtain ⟨C, T, N, fs0, ecx, ecl, -⟩ := ee_cls (ci := ee_yc b) hyc
      have hCn : C = (ee_yn b).cls := by
        have h1 := ee_cname hyc
        rw [ecx] at h1
        exact h1.trans m9
      have hrec := va_recv hG.1 hP ecl hws
      dsimp only at hrec
      rw [hCn] at hrec
      refine ee_callk (va_runV (As := vAs) (rest := vr) (b := ax) (C := (ee_yn b).cls) hfix (hM ad) ⟨hcb, hts _ (m4 hx'.2.2).1, hts _ ((m4 hx'.2.2).2 hni)⟩ ⟨ee_blind, hrec, ee_preU hC hwd hP hD hS ⟨hok, hA2⟩⟩ rfl ?_ hsz rfl (hW8 _) hd ⟨hcap1, hcap2⟩) hS hfin
      have h9 : (Nat.succ (ee_np b)) = rest1.length + 1 := by simpa using hPlen.symm
      have h10 : vAs.length + 1 = rest1.length + 1 := by simpa using hlenA
      omega
  · cases (show some (Instr.invokestatic a, 3) = some q from hq)
    have hx' : (ee_rsq y a 2 b && (decide (b < ee_nM) && !ee_isI b)) = true := hx
    rw [Bool.and_eq_true, Bool.and_eq_true] at hx'
    have hst : ee_isI b = false := by simpa using hx'.2.2
    have hcb := hCB _ rfl (hts _ (ee_word hx'.1 (w := .methodLink (ee_on.getD (ee_yc y) "") a (ee_yn b)) (by decide) (by decide) (by decide) rfl))
    refine ee_callk (va_runS (As := vAs) (rest := vr) hfix (hM ad) ⟨hcb, hts _ (m3 hst)⟩ ⟨ee_blind, ee_preU hC hwd hP hD hS hA⟩ rfl ?_ hsz rfl (hW8 _) hd ⟨hcap1, hcap2⟩) hS hfin
    rw [hlenA]
    exact hPlen
  · cases (show some (Instr.invokestatic a, 3) = some q from hq)
    have hx' : (ee_rsq y a 8 b && (decide (b < ee_nM) && !ee_isI b)) = true := hx
    rw [Bool.and_eq_true, Bool.and_eq_true] at hx'
    have hst : ee_isI b = false := by simpa using hx'.2.2
    have hnw := hG.2.1 _ (ee_nestw hx'.1)
    have hcn : va_CN R s args (ee_on.getD (ee_yc y) "") a (ee_yn b) "StoreBufferHeap" (ee_cb b) (ee_ml b) (ee_rt b) (ee_wsy b) (ee_rm (d - 1) c' s') c' s' (ee_np b) := ⟨⟨rfl, rfl, hfr, hlo, ee_words hts y1 yM, List.mem_cons_self⟩, hts _ m1, hts _ m2, ⟨m6, m7⟩, hpar, va_Nw.use rfl hnw⟩
    refine ee_callk (va_runSN (As := vAs) (rest := vr) hfix (hM ad) ⟨hcn, hts _ (m3 hst), trivial⟩ ⟨ee_blind, ee_preU hC hwd hP hD hS hA⟩ rfl ?_ hsz rfl (hW8 _) hd ⟨hcap1, hcap2⟩) hS hfin
    rw [hlenA]
    exact hPlen
end ES7
