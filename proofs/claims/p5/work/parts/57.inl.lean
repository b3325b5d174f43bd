/-! ===== runs with inlined calls ===== -/
theorem ab_ci_b {cls : Nat → List ab_Cl} {cps : Nat × Nat} {mask X cC cS op b fuel : Nat} {stp : ab_S → Option (List ab_S)} {ht : Nat → List ab_Hn} {S : ab_S} {L : List ab_S} (h : ab_ci cls cps mask X cC cS op b fuel stp ht S = some L) : 1 ≤ b ∧ b < ee_nM := by
  obtain ⟨pc, lo, st, hh, ce, sl⟩ := S
  unfold ab_ci at h
  dsimp only at h
  split at h
  · rename_i as rest hspl
    cases hc : ab_cik cps cC cS op b as rest hh ce sl with
    | false => rw [ee_cf hc] at h; cases h
    | true =>
      unfold ab_cik at hc
      simp only [Bool.and_eq_true] at hc
      exact ⟨Nat.le_of_ble_eq_true hc.1.1.1, Nat.le_of_ble_eq_true hc.1.1.2⟩
  · cases h
section RI
variable {cls : Nat → List ab_Cl} {l : Launch} {D : va_G} {dA : Nat → ClassId} {xa : List Nat} {xt : ee_X} {B : Nat}
theorem ab_oI_snd {mac : ab_Mc} {mask X dm : Nat} (hmac : ab_MS cls l D dA xa xt B mask X dm mac) {Ks : List ab_K} {iy : Nat → Nat} {iht : Nat → Nat → List ab_Hn} {ihk : Nat → Nat → Nat} {cps : Nat → Nat × Nat} {fuel dI : Nat} (hxt : xt[1]? = some (some ab_rnd)) (hnc : ∀ κ, ab_nc κ = true → cls κ = []) (hcok : ab_cok cls) (hcok2 : ab_cok2 cls) (hdI : 1 ≤ dI) (hdm : dm ≤ dI) (hK : ∀ K ∈ Ks, ab_CT cls l D dA xa xt B K) :
    ∀ (k : Nat) {p : Program} {e : Env} {R : Room} {s : State} {m : MethodId} {args : Array Value} {below : List Frame} {meth : Method} {c : Code} {Q : State → Prop} {rv0 : List Int} {sv0 : ab_B} {y d cC cS : Nat} {hk : Nat → Nat}, dI + k ≤ d → d ≤ R.frames ∧ 40 * d ≤ R.locals → cC + (6144 - sv0.2.2.2.2.2 / 1024) ≤ R.cells ∧ cS + (6291456 - sv0.2.2.2.2.2) ≤ R.slots → sv0.2.2.1 = ab_wm mask → sv0.2.2.2.2.1 = X → ee_C p s m args meth c D dA xa xt B y → y < ee_nM → ∀ {S : ab_S} {L : List ab_S}, ab_oI cls mac mask X Ks iy iht ihk cps fuel dI k cC cS hk y S = some L → (∀ S' ∈ L, ab_WS cls p l e R s m args below meth c Q D dA xa B rv0 sv0 y S') → ab_WS cls p l e R s m args below meth c Q D dA xa B rv0 sv0 y S
  | 0, p, e, R, s, m, args, below, meth, c, Q, rv0, sv0, y, d, cC, cS, hk, hd, hR, hcap, hmask, hXX, hC, hyM, S, L, h, kk => by
    have h' : ab_oM mac cls cC cS mask X (ab_kfl dI Ks) hk y S = some L := h
    unfold ab_oM at h'
    split at h'
    · rename_i L9 h9
      cases h'
      exact hmac (by omega) hR hcap hmask hXX hC hyM h9 kk
    exact ab_one_snd hxt hR (by omega) hcap hmask hXX hnc hcok hcok2 hC hyM (fun K hK' => ⟨hK K (ab_kfl_in hK').1, by have := (ab_kfl_in hK').2; omega⟩) h' kk
  | k + 1, p, e, R, s, m, args, below, meth, c, Q, rv0, sv0, y, d, cC, cS, hk, hd, hR, hcap, hmask, hXX, hC, hyM, S, L, h, kk => by
    have low : ∀ {L' : List ab_S}, ab_oM mac cls cC cS mask X (ab_kfl (Nat.add dI (Nat.succ k)) Ks) hk y S = some L' → (∀ S' ∈ L', ab_WS cls p l e R s m args below meth c Q D dA xa B rv0 sv0 y S') → ab_WS cls p l e R s m args below meth c Q D dA xa B rv0 sv0 y S := fun h' kk' => by
      unfold ab_oM at h'
      split at h'
      · rename_i L9 h9
        cases h'
        exact hmac (by omega) hR hcap hmask hXX hC hyM h9 kk'
      exact ab_one_snd hxt hR (by omega) hcap hmask hXX hnc hcok hcok2 hC hyM (fun K hK' => ⟨hK K (ab_kfl_in hK').1, by have h9 : K.1.2 < dI + (k + 1) := (ab_kfl_in hK').2; omega⟩) h' kk'
    unfold ab_oI at h
    split at h
    · rename_i i hi
      obtain ⟨op, a, b, n⟩ := i
      dsimp only at h
      have inl : ∀ {L' : List ab_S}, S.1 < 1100 → 39 ≤ op → op ≤ 42 → ab_ci cls (cps k) mask X cC cS op b fuel (ab_oI cls mac mask X Ks iy iht ihk cps fuel dI k (cps k).1 (cps k).2 (ihk b) b) (iht b) S = some L' → (∀ S' ∈ L', ab_WS cls p l e R s m args below meth c Q D dA xa B rv0 sv0 y S') → ab_WS cls p l e R s m args below meth c Q D dA xa B rv0 sv0 y S := by
        intro L' hlt o1 o2 h kk
        have hsc := ee_sc_all hyM hlt hi
        have hbb := ab_ci_b h
        obtain ⟨pc, r⟩ := S
        exact as_inl (cps := cps k) (d := d) (d0 := dI + k) (mask := mask) (X := X) (by omega) hR (by omega) hcap hmask hXX hC hsc (fun as h0 xs hlo hrx => ab_inl_ct (cps := cps k) hbb.1 hbb.2 hlo (by omega) (fun p' e' R' s' m' args' below' meth' c' Q' rv' sv' d' hd' hR' hcap' hm' hX' hC' S' L' hL' k' => ab_oI_snd hmac hxt hnc hcok hcok2 hdI hdm hK k hd' hR' hcap' hm' hX' hC' hbb.2 hL' k') hrx) (by omega) h kk
      cases hb : (Nat.blt S.1 (nat_lit 1100) && (Nat.ble (nat_lit 39) op && Nat.ble op (nat_lit 42))) && !Nat.beq (iy b) (nat_lit 0) with
      | false =>
        rw [ee_cf hb] at h
        exact low h kk
      | true =>
        rw [ee_ct hb] at h
        simp only [Bool.and_eq_true] at hb
        have hlt : S.1 < 1100 := Nat.le_of_ble_eq_true hb.1.1
        have o1 : 39 ≤ op := Nat.le_of_ble_eq_true hb.1.2.1
        have o2 : op ≤ 42 := Nat.le_of_ble_eq_true hb.1.2.2
        cases h1 : Nat.beq (iy b) (nat_lit 1) with
        | true =>
          rw [ee_ct h1] at h
          exact inl hlt o1 o2 h kk
        | false =>
          rw [ee_cf h1] at h
          split at h
          · rename_i L9 h9
            cases h
            exact low h9 kk
          · exact inl hlt o1 o2 h kk
    · cases h
end RI
def ab_rnI (cls : Nat → List ab_Cl) (mask X : Nat) (stp : ab_S → Option (List ab_S)) (ht : Nat → List ab_Hn) (stop : Nat → Bool) (fin : ab_S → Bool) : Nat → List ab_S → Bool
  | _, [] => true
  | 0, _ :: _ => false
  | n + 1, S :: w => bif stop S.1 then (bif (ab_hps cls mask X (ht (Nat.add S.1 (nat_lit 2000))) [S]).all fin then ab_rnI cls mask X stp ht stop fin n w else false) else match ab_adI stp (ab_hps cls mask X (ht S.1) [S]) with
    | some L => ab_rnI cls mask X stp ht stop fin n (ab_app L w)
    | none => false
def ab_rnI0 (cls : Nat → List ab_Cl) (mask X : Nat) (stp : ab_S → Option (List ab_S)) (ht : Nat → List ab_Hn) (stop : Nat → Bool) (fin : ab_S → Bool) (n : Nat) (S : ab_S) : Bool := match ab_adI stp (ab_hps cls mask X (ht S.1) [S]) with
  | some L => ab_rnI cls mask X stp ht stop fin n L
  | none => false
section RJ
variable {cls : Nat → List ab_Cl} {p : Program} {l : Launch} {e : Env} {R : Room} {s : State} {m : MethodId} {args : Array Value} {below : List Frame} {meth : Method} {c : Code} {Q : State → Prop} {D : va_G} {dA : Nat → ClassId} {xa : List Nat} {xt : ee_X} {B : Nat} {rv0 : List Int} {sv0 : ab_B} {y : Nat}
variable {mask X : Nat} {stp : ab_S → Option (List ab_S)} {ht : Nat → List ab_Hn} {stop : Nat → Bool} {fin : ab_S → Bool}
theorem ab_adJ_snd (hstp : ∀ S L, stp S = some L → (∀ S' ∈ L, ab_WS cls p l e R s m args below meth c Q D dA xa B rv0 sv0 y S') → ab_WS cls p l e R s m args below meth c Q D dA xa B rv0 sv0 y S) : ∀ {L0 L : List ab_S}, ab_adI stp L0 = some L → (∀ S ∈ L, ab_WS cls p l e R s m args below meth c Q D dA xa B rv0 sv0 y S) → ∀ S ∈ L0, ab_WS cls p l e R s m args below meth c Q D dA xa B rv0 sv0 y S
  | [], L, h, k, S, hS => by cases hS
  | S0 :: L0, L, h, k, S, hS => by
    unfold ab_adI at h
    split at h
    · rename_i L1 h1
      split at h
      · rename_i L2 h2
        cases h
        rw [ab_app_eq] at k
        rcases List.mem_cons.mp hS with rfl | hS
        · exact hstp _ _ h1 (fun S' h' => k S' (List.mem_append_left _ h'))
        · exact ab_adJ_snd hstp h2 (fun S' h' => k S' (List.mem_append_right _ h')) S hS
      · cases h
    · cases h
theorem ab_rnI_snd (hmask : sv0.2.2.1 = ab_wm mask) (hXX : sv0.2.2.2.2.1 = X) (hstp : ∀ S L, stp S = some L → (∀ S' ∈ L, ab_WS cls p l e R s m args below meth c Q D dA xa B rv0 sv0 y S') → ab_WS cls p l e R s m args below meth c Q D dA xa B rv0 sv0 y S)
    (k : ∀ S, fin S = true → ab_WS cls p l e R s m args below meth c Q D dA xa B rv0 sv0 y S) : ∀ {n : Nat} {ws : List ab_S}, ab_rnI cls mask X stp ht stop fin n ws = true → ∀ S ∈ ws, ab_WS cls p l e R s m args below meth c Q D dA xa B rv0 sv0 y S
  | n, [], _, S, hS => by cases hS
  | 0, _ :: _, h, _, _ => by cases h
  | n + 1, S0 :: w, h, S, hS => by
    unfold ab_rnI at h
    cases hst : stop S0.1 with
    | true =>
      rw [ee_ct hst] at h
      cases hf : (ab_hps cls mask X (ht (Nat.add S0.1 (nat_lit 2000))) [S0]).all fin with
      | false => rw [ee_cf hf] at h; cases h
      | true =>
        rw [ee_ct hf] at h
        rcases List.mem_cons.mp hS with rfl | hS
        · exact ab_hps_snd hmask hXX (fun S' h' => k S' (List.all_eq_true.mp hf S' h')) _ List.mem_cons_self
        · exact ab_rnI_snd hmask hXX hstp k h S hS
    | false =>
      rw [ee_cf hst] at h
      split at h
      · rename_i L hL
        have h9 := ab_rnI_snd hmask hXX hstp k h
        rw [ab_app_eq] at h9
        rcases List.mem_cons.mp hS with rfl | hS
        · exact ab_hps_snd hmask hXX (ab_adJ_snd hstp hL (fun S' h' => h9 S' (List.mem_append_left _ h'))) _ List.mem_cons_self
        · exact h9 S (List.mem_append_right _ hS)
      · cases h
theorem ab_rnI0_snd (hmask : sv0.2.2.1 = ab_wm mask) (hXX : sv0.2.2.2.2.1 = X) (hstp : ∀ S L, stp S = some L → (∀ S' ∈ L, ab_WS cls p l e R s m args below meth c Q D dA xa B rv0 sv0 y S') → ab_WS cls p l e R s m args below meth c Q D dA xa B rv0 sv0 y S)
    (k : ∀ S, fin S = true → ab_WS cls p l e R s m args below meth c Q D dA xa B rv0 sv0 y S) {n : Nat} {S : ab_S} (h : ab_rnI0 cls mask X stp ht stop fin n S = true) : ab_WS cls p l e R s m args below meth c Q D dA xa B rv0 sv0 y S := by
  unfold ab_rnI0 at h
  split at h
  · rename_i L hL
    exact ab_hps_snd hmask hXX (ab_adJ_snd hstp hL (ab_rnI_snd hmask hXX hstp k h)) _ List.mem_cons_self
  · cases h
end RJ
section MI
variable {cls : Nat → List ab_Cl} {l : Launch} {D : va_G} {dA : Nat → ClassId} {xa : List Nat} {xt : ee_X} {B : Nat}
theorem ab_methI {K : ab_K} {mac : ab_Mc} {Ks : List ab_K} {iy : Nat → Nat} {iht : Nat → Nat → List ab_Hn} {ihk : Nat → Nat → Nat} {cps : Nat → Nat × Nat} {fuel kI dI : Nat} {hk : Nat → Nat} {ht : Nat → List ab_Hn} {stop : Nat → Bool} {Ts : List (ab_S × ab_Rk)} {n : Nat} (hxt : xt[1]? = some (some ab_rnd)) (hnc : ∀ κ, ab_nc κ = true → cls κ = []) (hcok : ab_cok cls) (hcok2 : ab_cok2 cls) (hh : ab_hd1 K = true) {dm : Nat} (hmac : ab_MS cls l D dA xa xt B K.2.2.2.2.1 K.2.2.2.2.2 dm mac) (hKs : ∀ K' ∈ Ks, ab_CT cls l D dA xa xt B K') (hdI : 1 ≤ dI) (hdm : dm ≤ dI) (hkd : dI + kI ≤ K.1.2) (htb : ab_tbs Ts = true)
    (hen : ab_rnI0 cls K.2.2.2.2.1 K.2.2.2.2.2 (ab_oI cls mac K.2.2.2.2.1 K.2.2.2.2.2 Ks iy iht ihk cps fuel dI kI K.2.1.1 K.2.1.2 hk K.1.1) ht stop (ab_fin K.2.2.1.2.1.length K.2.2.1.2.2.2.1.length K.1.1 K.2.2.2.1 none Ts) n (ab_ent K) = true)
    (hrs : ∀ T ∈ Ts, ab_rnI0 cls K.2.2.2.2.1 K.2.2.2.2.2 (ab_oI cls mac K.2.2.2.2.1 K.2.2.2.2.2 Ks iy iht ihk cps fuel dI kI K.2.1.1 K.2.1.2 hk K.1.1) ht stop (ab_fin K.2.2.1.2.1.length K.2.2.1.2.2.2.1.length K.1.1 K.2.2.2.1 (some T.2) Ts) n T.1 = true) : ab_CT cls l D dA xa xt B K := by
  obtain ⟨⟨y, d0⟩, ⟨c', s'⟩, ⟨as, h0⟩, xs, mask, X⟩ := K
  unfold ab_hd1 at hh
  rw [Bool.and_eq_true, Bool.and_eq_true, Bool.and_eq_true] at hh
  obtain ⟨⟨hy1, hyM⟩, hlo, hd1⟩ := hh
  have hy1 : 1 ≤ y := Nat.le_of_ble_eq_true hy1
  have hyM : y < ee_nM := Nat.le_of_ble_eq_true hyM
  have hd1 : 1 ≤ d0 := Nat.le_of_ble_eq_true hd1
  have hlo : (ab_los as).length ≤ ee_ml y := by
    have h9 := Nat.le_of_ble_eq_true hlo
    rw [ee_len_eq] at h9
    exact h9
  dsimp only at hkd hen hrs
  intro d hd ke ks0 ws0 rv0 sv0 vs0 hG0 hA0 h29
  dsimp only at hd hG0 hA0 ⊢
  have l1 : rv0.length = h0.1.length := hG0.1.1
  have l2 : sv0.length = h0.2.2.1.length := hG0.2.2.1.1
  rw [← l1, ← l2] at hen
  refine ct_met (d := d) (c' := c' + (6144 - ab_ph ke ks0 ws0 / 1024)) (s' := s' + (6291456 - ab_ph ke ks0 ws0)) hy1 hyM ?_ ?_
  · rintro vs ws ⟨rfl, rfl⟩
    rw [(ab_los_in hA0).1]
    exact hlo
  · rintro p e s m vs below meth c ws ls hC ⟨rfl, rfl⟩ hP hD hS hlv
    have hR : d ≤ (ee_rm d (c' + (6144 - ab_ph ke ks0 ws / 1024)) (s' + (6291456 - ab_ph ke ks0 ws))).frames ∧ 40 * d ≤ (ee_rm d (c' + (6144 - ab_ph ke ks0 ws / 1024)) (s' + (6291456 - ab_ph ke ks0 ws))).locals := ⟨Nat.le_refl _, Nat.le_refl _⟩
    have hd0 : 0 < d := by omega
    have hkd' : dI + kI ≤ d := Nat.le_trans hkd hd
    have hcap : ∀ sv9 : List (Nat × Nat), c' + (6144 - ((sv9, (ks0, ws), ab_wm mask, ke, X, ab_ph ke ks0 ws) : ab_B).2.2.2.2.2 / 1024) ≤ (ee_rm d (c' + (6144 - ab_ph ke ks0 ws / 1024)) (s' + (6291456 - ab_ph ke ks0 ws))).cells ∧ s' + (6291456 - ((sv9, (ks0, ws), ab_wm mask, ke, X, ab_ph ke ks0 ws) : ab_B).2.2.2.2.2) ≤ (ee_rm d (c' + (6144 - ab_ph ke ks0 ws / 1024)) (s' + (6291456 - ab_ph ke ks0 ws))).slots := fun _ => ⟨Nat.le_refl _, Nat.le_refl _⟩
    -- all templates, by their ranks
    have cuts : ∀ (N : Nat) (T : ab_S × ab_Rk), T ∈ Ts → ∀ (ks : List Nat) (ws1 : va_W) (rv : List Int) (sv : List (Nat × Nat)) (H : Heap) (locs : List Loc) (ls : Array Slot) (vs1 : List Value), rv0 <+: rv → ab_px (sv0, (ks0, ws), ab_wm mask, ke, X, ab_ph ke ks0 ws) ks ws1 sv → ab_G cls dA xa ks ws1 rv sv T.1.2.2.2.1 → va_P D ee_cl ws1 H → va_D (fun q => B ≤ q) ws1 → va_S (fun q => B ≤ q) s.heap H locs → ab_lo rv sv xa ls (ee_ml y) T.1.2.1 → ab_a2 (ab_ok rv sv xa) vs1 T.1.2.2.1 → ab_rnk rv T.2 < N →
        W p l e (ee_rm d (c' + (6144 - ab_ph ke ks0 ws / 1024)) (s' + (6291456 - ab_ph ke ks0 ws))) s m vs.toArray below meth c H locs (T.1.2.2.2.2.1 + (ab_ph ke ks ws1 / 1024 - ab_ph ke ks0 ws / 1024)) (T.1.2.2.2.2.2 + (ab_ph ke ks ws1 - ab_ph ke ks0 ws)) (mq below (ct_Post D B (ab_Qx cls dA xa ke ks0 ws rv0 sv0 mask X xs)) vs.toArray s (fun q => B ≤ q)) (F0 m T.1.1 ls vs1) := by
      intro N
      induction N with
      | zero => intro T hT ks ws1 rv sv H locs ls vs1 _ _ _ _ _ _ _ _ hN; omega
      | succ N ih =>
        intro T hT ks ws1 rv sv H locs ls vs1 hr hpx hG hP1 hD1 hS1 hl hv hN
        have hrt := hrs T hT
        rw [← l1, ← l2] at hrt
        have hbT : ab_rb T.1.2.2.2.1 T.2 = true := List.all_eq_true.mp htb T hT
        refine ab_rnI0_snd (y := y) (rv0 := rv) (sv0 := (sv, (ks0, ws), ab_wm mask, ke, X, ab_ph ke ks0 ws)) rfl rfl (fun S L hL k => ab_oI_snd hmac hxt hnc hcok hcok2 hdI hdm hKs kI hkd' hR (hcap sv) rfl rfl hC hyM hL k) ?_ hrt ks ws1 rv sv H locs ls vs1 (List.prefix_refl rv) ⟨List.prefix_refl sv, hpx.2⟩ hG hP1 hD1 hS1 hl hv
        intro S hfin
        unfold ab_fin at hfin
        rw [Bool.or_eq_true] at hfin
        rcases hfin with hfin | hfin
        · exact ab_ret_snd hy1 hC hyM hfin hr hpx.1
        · unfold ab_fc1 at hfin
          obtain ⟨T', hT', h2⟩ := List.any_eq_true.mp hfin
          rw [Bool.and_eq_true] at h2
          have h3 := h2.2
          generalize ab_mt rv0.length sv0.length S.2.1 S.2.2.1 S.2.2.2.1 T'.1.2.1 T'.1.2.2.1 T'.1.2.2.2.1 = q at h3
          obtain ⟨σ, ρ⟩ := q
          dsimp only at h3
          rw [Bool.and_eq_true] at h3
          intro ks2 ws2 rv2 sv2 H2 locs2 ls2 vs2 hr2 hs2 hG2 hP2 hD2 hS2 hl2 hv2
          obtain ⟨rv', sv', hSG, g1, g2, g3, g4, g5, g6, g7, g8⟩ := ab_le_fit h3.1 hG2 hl2 hv2
          have hbT' : ab_rb T'.1.2.2.2.1 T'.2 = true := List.all_eq_true.mp htb T' hT'
          have hlt := ab_rlt_snd hG2.1 hG2.2.1 hSG hr2 hG.1 g1.1 hbT hbT' h3.2
          rw [g6]
          exact W.widen (Nat.add_le_add_right g7 _) (Nat.add_le_add_right g8 _) (ih T' hT' ks2 ws2 rv' sv' H2 locs2 ls2 vs2 (g4 rv0 rfl (hr.trans hr2)) ⟨g5 sv0 rfl (hpx.1.trans hs2.1), hs2.2⟩ g1 hP2 hD2 hS2 g2 g3 (by omega))
    have hst : ab_px (sv0, (ks0, ws), ab_wm mask, ke, X, ab_ph ke ks0 ws) ks0 ws sv0 := ⟨List.prefix_refl sv0, ⟨ab_kp_rf, fun k κ q _ h2 => Or.inl h2, h29⟩, Nat.le_refl _⟩
    have hlo0 : ab_lo rv0 sv0 xa ls (ee_ml y) (ab_pad (ee_ml y) (ab_los as)) := by
      refine ⟨ab_pad_len _ _ hlo, _, hlv, fun i a ha => ?_⟩
      rcases ab_pad_at _ _ i a hlo ha with h9 | h9
      · exact Or.inl h9
      · rcases (ab_los_in hA0).2 0 i a h9 with h8 | ⟨v, v1, v2⟩
        · exact Or.inl h8
        · rw [Nat.zero_add] at v1
          exact Or.inr ⟨v, v1, v2⟩
    have hw := ab_rnI0_snd (y := y) (rv0 := rv0) (sv0 := (sv0, (ks0, ws), ab_wm mask, ke, X, ab_ph ke ks0 ws)) (Q := mq below (ct_Post D B (ab_Qx cls dA xa ke ks0 ws rv0 sv0 mask X xs)) vs.toArray s (fun q => B ≤ q)) (p := p) (e := e) (s := s) (m := m) (args := vs.toArray) (below := below) (meth := meth) (c := c) (R := ee_rm d (c' + (6144 - ab_ph ke ks0 ws / 1024)) (s' + (6291456 - ab_ph ke ks0 ws))) rfl rfl (fun S L hL k => ab_oI_snd hmac hxt hnc hcok hcok2 hdI hdm hKs kI hkd' hR (hcap sv0) rfl rfl hC hyM hL k) (fun S hfin => by
      unfold ab_fin at hfin
      rw [Bool.or_eq_true] at hfin
      rcases hfin with hfin | hfin
      · exact ab_ret_snd hy1 hC hyM hfin (List.prefix_refl rv0) (List.prefix_refl sv0)
      · unfold ab_fc1 at hfin
        obtain ⟨T', hT', h2⟩ := List.any_eq_true.mp hfin
        rw [Bool.and_eq_true] at h2
        have h3 := h2.2
        generalize ab_mt rv0.length sv0.length S.2.1 S.2.2.1 S.2.2.2.1 T'.1.2.1 T'.1.2.2.1 T'.1.2.2.2.1 = q at h3
        obtain ⟨σ, ρ⟩ := q
        dsimp only at h3
        rw [Bool.and_eq_true] at h3
        intro ks2 ws2 rv2 sv2 H2 locs2 ls2 vs2 hr2 hs2 hG2 hP2 hD2 hS2 hl2 hv2
        obtain ⟨rv', sv', hSG, g1, g2, g3, g4, g5, g6, g7, g8⟩ := ab_le_fit h3.1 hG2 hl2 hv2
        rw [g6]
        exact W.widen (Nat.add_le_add_right g7 _) (Nat.add_le_add_right g8 _) (cuts (ab_rnk rv' T'.2 + 1) T' hT' ks2 ws2 rv' sv' H2 locs2 ls2 vs2 (g4 rv0 rfl hr2) ⟨g5 sv0 rfl hs2.1, hs2.2⟩ g1 hP2 hD2 hS2 g2 g3 (Nat.lt_succ_self _))) hen
      ks0 ws rv0 sv0 s.heap [] ls [] (List.prefix_refl rv0) hst hG0 hP hD hS hlo0 trivial
    have e0 : (0 : Nat) + (ab_ph ke ks0 ws - ab_ph ke ks0 ws) = 0 := by omega
    have e0c : (0 : Nat) + (ab_ph ke ks0 ws / 1024 - ab_ph ke ks0 ws / 1024) = 0 := by omega
    have hw' : W p l e (ee_rm d (c' + (6144 - ab_ph ke ks0 ws / 1024)) (s' + (6291456 - ab_ph ke ks0 ws))) s m vs.toArray below meth c s.heap [] (0 + (ab_ph ke ks0 ws / 1024 - ab_ph ke ks0 ws / 1024)) (0 + (ab_ph ke ks0 ws - ab_ph ke ks0 ws)) (mq below (ct_Post D B (ab_Qx cls dA xa ke ks0 ws rv0 sv0 mask X xs)) vs.toArray s (fun q => B ≤ q)) (F0 m 0 ls []) := hw
    rw [e0, e0c] at hw'
    exact hw'
end MI
