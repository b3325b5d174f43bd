/-! ===== a method's contract out of its checks ===== -/
def ab_los : List ab_A → List ab_A
  | [] => []
  | a :: l => bif ab_isl a then a :: .inr (.inr (nat_lit 0)) :: ab_los l else a :: ab_los l
def ab_pad : Nat → List ab_A → List ab_A
  | 0, l => l
  | n + 1, [] => .inr (.inr (nat_lit 0)) :: ab_pad n []
  | n + 1, a :: l => a :: ab_pad n l
theorem ab_pad_len : ∀ (n : Nat) (l : List ab_A), l.length ≤ n → (ab_pad n l).length = n
  | 0, [], _ => rfl
  | 0, _ :: _, h => by cases h
  | n + 1, [], h => by
    show (ab_pad n []).length + 1 = n + 1
    rw [ab_pad_len n [] (Nat.zero_le n)]
  | n + 1, a :: l, h => by
    show (ab_pad n l).length + 1 = n + 1
    rw [ab_pad_len n l (Nat.le_of_succ_le_succ h)]
theorem ab_pad_at : ∀ (n : Nat) (l : List ab_A) (i : Nat) (a : ab_A), l.length ≤ n → (ab_pad n l)[i]? = some a → a = .inr (.inr 0) ∨ l[i]? = some a
  | 0, l, i, a, _, h => Or.inr h
  | n + 1, [], 0, a, _, h => by
    have h' : some (.inr (.inr 0)) = some a := h
    exact Or.inl (Option.some.inj h').symm
  | n + 1, [], i + 1, a, _, h => by
    have h' : (ab_pad n [])[i]? = some a := h
    rcases ab_pad_at n [] i a (Nat.zero_le n) h' with h9 | h9
    · exact Or.inl h9
    · simp at h9
  | n + 1, b :: l, 0, a, _, h => Or.inr h
  | n + 1, b :: l, i + 1, a, hl, h => by
    have h' : (ab_pad n l)[i]? = some a := h
    rcases ab_pad_at n l i a (Nat.le_of_succ_le_succ hl) h' with h9 | h9
    · exact Or.inl h9
    · exact Or.inr h9
theorem ab_los_in {rv : List Int} {sv : List (Nat × Nat)} {xa : List Nat} : ∀ {vs : List Value} {as : List ab_A}, ab_a2 (ab_ok rv sv xa) vs as → (lg_sl vs).length = (ab_los as).length ∧ ∀ (base i : Nat) (a : ab_A), (ab_los as)[i]? = some a → a = .inr (.inr 0) ∨ ∃ v, (base + i, v) ∈ lv_args base vs ∧ ab_ok rv sv xa v a
  | [], [], _ => ⟨rfl, fun base i a h => by simp [ab_los] at h⟩
  | v :: vs, a0 :: as, h => by
    obtain ⟨h1, h2⟩ := ab_los_in h.2
    have hsl : lg_sl (v :: vs) = (if v.category = 2 then [Slot.val v, .second] else [Slot.val v]) ++ lg_sl vs := by
      unfold lg_sl
      rw [List.flatMap_cons]
    cases hl : ab_isl a0 with
    | true =>
      have hc : v.category = 2 := by
        match a0, hl, h.1 with
        | .inr (.inr 1), _, ⟨x, e⟩ => rw [e]; rfl
      have el : ab_los (a0 :: as) = a0 :: .inr (.inr 0) :: ab_los as := by
        show (bif ab_isl a0 then _ else _) = _
        rw [hl]
        rfl
      refine ⟨?_, fun base i a ha => ?_⟩
      · rw [hsl, el, if_pos hc, List.length_append, h1]
        simp
        omega
      · rw [el] at ha
        match i, ha with
        | 0, ha =>
          cases ha
          exact Or.inr ⟨v, List.mem_cons_self, h.1⟩
        | 1, ha =>
          have ha' : some (.inr (.inr 0)) = some a := ha
          exact Or.inl (Option.some.inj ha').symm
        | i + 2, ha =>
          have ha' : (ab_los as)[i]? = some a := ha
          rcases h2 (base + 2) i a ha' with h9 | ⟨w, w1, w2⟩
          · exact Or.inl h9
          · refine Or.inr ⟨w, ?_, w2⟩
            show (base + (i + 2), w) ∈ (base, v) :: lv_args (if v.category = 2 then base + 2 else base + 1) vs
            rw [if_pos hc, show base + (i + 2) = base + 2 + i by omega]
            exact List.mem_cons_of_mem _ w1
    | false =>
      have hc : v.category = 1 := ab_ok_notl hl h.1
      have hc2 : ¬ v.category = 2 := by omega
      have el : ab_los (a0 :: as) = a0 :: ab_los as := by
        show (bif ab_isl a0 then _ else _) = _
        rw [hl]
        rfl
      refine ⟨?_, fun base i a ha => ?_⟩
      · rw [hsl, el, if_neg hc2, List.length_append, h1]
        simp
        omega
      · rw [el] at ha
        match i, ha with
        | 0, ha =>
          cases ha
          exact Or.inr ⟨v, List.mem_cons_self, h.1⟩
        | i + 1, ha =>
          have ha' : (ab_los as)[i]? = some a := ha
          rcases h2 (base + 1) i a ha' with h9 | ⟨w, w1, w2⟩
          · exact Or.inl h9
          · refine Or.inr ⟨w, ?_, w2⟩
            show (base + (i + 1), w) ∈ (base, v) :: lv_args (if v.category = 2 then base + 2 else base + 1) vs
            rw [if_neg hc2, show base + (i + 1) = base + 1 + i by omega]
            exact List.mem_cons_of_mem _ w1
def ab_ent (K : ab_K) : ab_S := (nat_lit 0, ab_pad (ee_ml K.1.1) (ab_los K.2.2.1.1), [], K.2.2.1.2, nat_lit 0, nat_lit 0)
/-- all templates hold their ranks in bounds -/
def ab_tbs (Ts : List (ab_S × ab_Rk)) : Bool := Ts.all fun T => ab_rb T.1.2.2.2.1 T.2
def ab_hd1 (K : ab_K) : Bool := (Nat.ble (nat_lit 1) K.1.1 && Nat.blt K.1.1 ee_nM) && (Nat.ble (ee_len (ab_los K.2.2.1.1)) (ee_ml K.1.1) && Nat.ble (nat_lit 1) K.1.2)
section MT
variable {cls : Nat → List ab_Cl} {l : Launch} {D : va_G} {dA : Nat → ClassId} {xa : List Nat} {xt : ee_X} {B : Nat}
theorem ab_meth {K : ab_K} {Ks : List ab_K} {hk : Nat → Nat} {ht : Nat → List ab_Hn} {stop : Nat → Bool} {Ts : List (ab_S × ab_Rk)} {n : Nat} (hxt : xt[1]? = some (some ab_rnd)) (hnc : ∀ κ, ab_nc κ = true → cls κ = []) (hcok : ab_cok cls) (hcok2 : ab_cok2 cls) (hh : ab_hd1 K = true) (hKs : ∀ K' ∈ Ks, ab_CT cls l D dA xa xt B K' ∧ K'.1.2 < K.1.2) (htb : ab_tbs Ts = true)
    (hen : ab_rn0 cls K.2.1.1 K.2.1.2 K.2.2.2.2.1 K.2.2.2.2.2 Ks hk ht K.1.1 stop (ab_fin K.2.2.1.2.1.length K.2.2.1.2.2.2.1.length K.1.1 K.2.2.2.1 none Ts) n (ab_ent K) = true)
    (hrs : ∀ T ∈ Ts, ab_rn0 cls K.2.1.1 K.2.1.2 K.2.2.2.2.1 K.2.2.2.2.2 Ks hk ht K.1.1 stop (ab_fin K.2.2.1.2.1.length K.2.2.1.2.2.2.1.length K.1.1 K.2.2.2.1 (some T.2) Ts) n T.1 = true) : ab_CT cls l D dA xa xt B K := by
  obtain ⟨⟨y, d0⟩, ⟨c', s'⟩, ⟨as, h0⟩, xs, mask, X⟩ := K
  unfold ab_hd1 at hh
  rw [Bool.and_eq_true, Bool.and_eq_true, Bool.and_eq_true] at hh
  obtain ⟨⟨hy1, hyM⟩, hlo, hd1⟩ := hh
  have hy1 : 1 ≤ y := Nat.le_of_ble_eq_true hy1
  have hyM : y < ee_nM := Nat.le_of_ble_eq_true hyM
  have hd1 : 1 ≤ d0 := Nat.le_of_ble_eq_true hd1
  have hlo : (ab_los as).length ≤ ee_ml y := by
    have h9 := Nat.le_of_ble_eq_true hlo
    rw [ee_len_eq] at h9
    exact h9
  dsimp only at hKs hen hrs
  intro d hd ke ks0 ws0 rv0 sv0 vs0 hG0 hA0 h29
  dsimp only at hd hG0 hA0 ⊢
  have l1 : rv0.length = h0.1.length := hG0.1.1
  have l2 : sv0.length = h0.2.2.1.length := hG0.2.2.1.1
  rw [← l1, ← l2] at hen
  refine ct_met (d := d) (c' := c' + (6144 - ab_ph ke ks0 ws0 / 1024)) (s' := s' + (6291456 - ab_ph ke ks0 ws0)) hy1 hyM ?_ ?_
  · rintro vs ws ⟨rfl, rfl⟩
    rw [(ab_los_in hA0).1]
    exact hlo
  · rintro p e s m vs below meth c ws ls hC ⟨rfl, rfl⟩ hP hD hS hlv
    have hR : d ≤ (ee_rm d (c' + (6144 - ab_ph ke ks0 ws / 1024)) (s' + (6291456 - ab_ph ke ks0 ws))).frames ∧ 40 * d ≤ (ee_rm d (c' + (6144 - ab_ph ke ks0 ws / 1024)) (s' + (6291456 - ab_ph ke ks0 ws))).locals := ⟨Nat.le_refl _, Nat.le_refl _⟩
    have hd0 : 0 < d := by omega
    have hKs' : ∀ K' ∈ Ks, ab_CT cls l D dA xa xt B K' ∧ K'.1.2 < d := fun K' h' => ⟨(hKs K' h').1, by have := (hKs K' h').2; omega⟩
    have hcap : ∀ sv9 : List (Nat × Nat), c' + (6144 - ((sv9, (ks0, ws), ab_wm mask, ke, X, ab_ph ke ks0 ws) : ab_B).2.2.2.2.2 / 1024) ≤ (ee_rm d (c' + (6144 - ab_ph ke ks0 ws / 1024)) (s' + (6291456 - ab_ph ke ks0 ws))).cells ∧ s' + (6291456 - ((sv9, (ks0, ws), ab_wm mask, ke, X, ab_ph ke ks0 ws) : ab_B).2.2.2.2.2) ≤ (ee_rm d (c' + (6144 - ab_ph ke ks0 ws / 1024)) (s' + (6291456 - ab_ph ke ks0 ws))).slots := fun _ => ⟨Nat.le_refl _, Nat.le_refl _⟩
    -- all templates, by their ranks
    have cuts : ∀ (N : Nat) (T : ab_S × ab_Rk), T ∈ Ts → ∀ (ks : List Nat) (ws1 : va_W) (rv : List Int) (sv : List (Nat × Nat)) (H : Heap) (locs : List Loc) (ls : Array Slot) (vs1 : List Value), rv0 <+: rv → ab_px (sv0, (ks0, ws), ab_wm mask, ke, X, ab_ph ke ks0 ws) ks ws1 sv → ab_G cls dA xa ks ws1 rv sv T.1.2.2.2.1 → va_P D ee_cl ws1 H → va_D (fun q => B ≤ q) ws1 → va_S (fun q => B ≤ q) s.heap H locs → ab_lo rv sv xa ls (ee_ml y) T.1.2.1 → ab_a2 (ab_ok rv sv xa) vs1 T.1.2.2.1 → ab_rnk rv T.2 < N →
        W p l e (ee_rm d (c' + (6144 - ab_ph ke ks0 ws / 1024)) (s' + (6291456 - ab_ph ke ks0 ws))) s m vs.toArray below meth c H locs (T.1.2.2.2.2.1 + (ab_ph ke ks ws1 / 1024 - ab_ph ke ks0 ws / 1024)) (T.1.2.2.2.2.2 + (ab_ph ke ks ws1 - ab_ph ke ks0 ws)) (mq below (ct_Post D B (ab_Qx cls dA xa ke ks0 ws rv0 sv0 mask X xs)) vs.toArray s (fun q => B ≤ q)) (F0 m T.1.1 ls vs1) := by
      intro N
      induction N with
      | zero => intro T hT ks ws1 rv sv H locs ls vs1 _ _ _ _ _ _ _ _ hN; omega
      | succ N ih =>
        intro T hT ks ws1 rv sv H locs ls vs1 hr hpx hG hP1 hD1 hS1 hl hv hN
        have hrt := hrs T hT
        rw [← l1, ← l2] at hrt
        have hbT : ab_rb T.1.2.2.2.1 T.2 = true := List.all_eq_true.mp htb T hT
        refine ab_rn0_snd (rv0 := rv) (sv0 := (sv, (ks0, ws), ab_wm mask, ke, X, ab_ph ke ks0 ws)) hxt hR hd0 (hcap sv) rfl rfl hnc hcok hcok2 hC hyM hKs' ?_ hrt ks ws1 rv sv H locs ls vs1 (List.prefix_refl rv) ⟨List.prefix_refl sv, hpx.2⟩ hG hP1 hD1 hS1 hl hv
        intro S hfin
        unfold ab_fin at hfin
        rw [Bool.or_eq_true] at hfin
        rcases hfin with hfin | hfin
        · exact ab_ret_snd hy1 hC hyM hfin hr hpx.1
        · unfold ab_fc1 at hfin
          obtain ⟨T', hT', h2⟩ := List.any_eq_true.mp hfin
          rw [Bool.and_eq_true] at h2
          have h3 := h2.2
          generalize ab_mt rv0.length sv0.length S.2.1 S.2.2.1 S.2.2.2.1 T'.1.2.1 T'.1.2.2.1 T'.1.2.2.2.1 = q at h3
          obtain ⟨σ, ρ⟩ := q
          dsimp only at h3
          rw [Bool.and_eq_true] at h3
          intro ks2 ws2 rv2 sv2 H2 locs2 ls2 vs2 hr2 hs2 hG2 hP2 hD2 hS2 hl2 hv2
          obtain ⟨rv', sv', hSG, g1, g2, g3, g4, g5, g6, g7, g8⟩ := ab_le_fit h3.1 hG2 hl2 hv2
          have hbT' : ab_rb T'.1.2.2.2.1 T'.2 = true := List.all_eq_true.mp htb T' hT'
          have hlt := ab_rlt_snd hG2.1 hG2.2.1 hSG hr2 hG.1 g1.1 hbT hbT' h3.2
          rw [g6]
          exact W.widen (Nat.add_le_add_right g7 _) (Nat.add_le_add_right g8 _) (ih T' hT' ks2 ws2 rv' sv' H2 locs2 ls2 vs2 (g4 rv0 rfl (hr.trans hr2)) ⟨g5 sv0 rfl (hpx.1.trans hs2.1), hs2.2⟩ g1 hP2 hD2 hS2 g2 g3 (by omega))
    have hst : ab_px (sv0, (ks0, ws), ab_wm mask, ke, X, ab_ph ke ks0 ws) ks0 ws sv0 := ⟨List.prefix_refl sv0, ⟨ab_kp_rf, fun k κ q _ h2 => Or.inl h2, h29⟩, Nat.le_refl _⟩
    have hlo0 : ab_lo rv0 sv0 xa ls (ee_ml y) (ab_pad (ee_ml y) (ab_los as)) := by
      refine ⟨ab_pad_len _ _ hlo, _, hlv, fun i a ha => ?_⟩
      rcases ab_pad_at _ _ i a hlo ha with h9 | h9
      · exact Or.inl h9
      · rcases (ab_los_in hA0).2 0 i a h9 with h8 | ⟨v, v1, v2⟩
        · exact Or.inl h8
        · rw [Nat.zero_add] at v1
          exact Or.inr ⟨v, v1, v2⟩
    have hw := ab_rn0_snd (rv0 := rv0) (sv0 := (sv0, (ks0, ws), ab_wm mask, ke, X, ab_ph ke ks0 ws)) (Q := mq below (ct_Post D B (ab_Qx cls dA xa ke ks0 ws rv0 sv0 mask X xs)) vs.toArray s (fun q => B ≤ q)) (p := p) (e := e) (s := s) (m := m) (args := vs.toArray) (below := below) (meth := meth) (c := c) (R := ee_rm d (c' + (6144 - ab_ph ke ks0 ws / 1024)) (s' + (6291456 - ab_ph ke ks0 ws))) hxt hR hd0 (hcap sv0) rfl rfl hnc hcok hcok2 hC hyM hKs' (fun S hfin => by
      unfold ab_fin at hfin
      rw [Bool.or_eq_true] at hfin
      rcases hfin with hfin | hfin
      · exact ab_ret_snd hy1 hC hyM hfin (List.prefix_refl rv0) (List.prefix_refl sv0)
      · unfold ab_fc1 at hfin
        obtain ⟨T', hT', h2⟩ := List.any_eq_true.mp hfin
        rw [Bool.and_eq_true] at h2
        have h3 := h2.2
        generalize ab_mt rv0.length sv0.length S.2.1 S.2.2.1 S.2.2.2.1 T'.1.2.1 T'.1.2.2.1 T'.1.2.2.2.1 = q at h3
        obtain ⟨σ, ρ⟩ := q
        dsimp only at h3
        rw [Bool.and_eq_true] at h3
        intro ks2 ws2 rv2 sv2 H2 locs2 ls2 vs2 hr2 hs2 hG2 hP2 hD2 hS2 hl2 hv2
        obtain ⟨rv', sv', hSG, g1, g2, g3, g4, g5, g6, g7, g8⟩ := ab_le_fit h3.1 hG2 hl2 hv2
        rw [g6]
        exact W.widen (Nat.add_le_add_right g7 _) (Nat.add_le_add_right g8 _) (cuts (ab_rnk rv' T'.2 + 1) T' hT' ks2 ws2 rv' sv' H2 locs2 ls2 vs2 (g4 rv0 rfl hr2) ⟨g5 sv0 rfl hs2.1, hs2.2⟩ g1 hP2 hD2 hS2 g2 g3 (Nat.lt_succ_self _))) hen
      ks0 ws rv0 sv0 s.heap [] ls [] (List.prefix_refl rv0) hst hG0 hP hD hS hlo0 trivial
    have e0 : (0 : Nat) + (ab_ph ke ks0 ws - ab_ph ke ks0 ws) = 0 := by omega
    have e0c : (0 : Nat) + (ab_ph ke ks0 ws / 1024 - ab_ph ke ks0 ws / 1024) = 0 := by omega
    have hw' : W p l e (ee_rm d (c' + (6144 - ab_ph ke ks0 ws / 1024)) (s' + (6291456 - ab_ph ke ks0 ws))) s m vs.toArray below meth c s.heap [] (0 + (ab_ph ke ks0 ws / 1024 - ab_ph ke ks0 ws / 1024)) (0 + (ab_ph ke ks0 ws - ab_ph ke ks0 ws)) (mq below (ct_Post D B (ab_Qx cls dA xa ke ks0 ws rv0 sv0 mask X xs)) vs.toArray s (fun q => B ≤ q)) (F0 m 0 ls []) := hw
    rw [e0, e0c] at hw'
    exact hw'
end MT
