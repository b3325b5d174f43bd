/-! ===== the step of an inlined call, level by level ===== -/
def ab_xst (pc : Nat) (lo rest : List ab_A) (ce sl : Nat) (x : ab_X) : ab_S := (pc, lo, (match x.1 with
  | none => rest
  | some a => a :: rest), x.2.1, Nat.add ce x.2.2.1, Nat.add sl x.2.2.2)
def ab_cik (cps : Nat × Nat) (cC cS op b : Nat) (as rest : List ab_A) (h : ab_H) (ce sl : Nat) : Bool :=
  ((Nat.ble (nat_lit 1) b && Nat.blt b ee_nM) && Nat.beq (ee_na b) (bif Nat.beq op (nat_lit 39) || Nat.beq op (nat_lit 40) then Nat.succ (ee_np b) else ee_np b)) && ((ab_rcv op b h as && Nat.ble (ab_cat rest) (nat_lit 8)) && (Nat.ble (ee_len (ab_los as)) (ee_ml b) && (Nat.ble (Nat.add ce cps.1) cC && Nat.ble (Nat.add sl cps.2) cS)))
def ab_ci (cls : Nat → List ab_Cl) (cps : Nat × Nat) (mask X cC cS op b fuel : Nat) (stp : ab_S → Option (List ab_S)) (ht : Nat → List ab_Hn) : ab_S → Option (List ab_S)
  | (pc, lo, st, h, ce, sl) => match ab_spl (ee_na b) st [] with
    | some (as, rest) => bif ab_cik cps cC cS op b as rest h ce sl then (match ab_rx cls mask X stp ht b fuel [(nat_lit 0, ab_pad (ee_ml b) (ab_los as), [], h, nat_lit 0, nat_lit 0)] [] with
      | some xs => some (ab_map (ab_xst (Nat.add pc (nat_lit 3)) lo rest ce sl) xs)
      | none => none) else none
    | none => none
/-- contracts of depth below d -/
def ab_kfl (d : Nat) : List ab_K → List ab_K
  | [] => []
  | K :: l => bif Nat.blt K.1.2 d then K :: ab_kfl d l else ab_kfl d l
theorem ab_kfl_in {d : Nat} : ∀ {Ks : List ab_K} {K : ab_K}, K ∈ ab_kfl d Ks → K ∈ Ks ∧ K.1.2 < d
  | [], K, h => by cases h
  | K0 :: l, K, h => by
    unfold ab_kfl at h
    cases hb : Nat.blt K0.1.2 d with
    | false =>
      rw [ee_cf hb] at h
      exact ⟨List.mem_cons_of_mem _ (ab_kfl_in h).1, (ab_kfl_in h).2⟩
    | true =>
      rw [ee_ct hb] at h
      rcases List.mem_cons.mp h with rfl | h
      · exact ⟨List.mem_cons_self, Nat.le_of_ble_eq_true hb⟩
      · exact ⟨List.mem_cons_of_mem _ (ab_kfl_in h).1, (ab_kfl_in h).2⟩
/-- iy: 0 by contract, 1 inlined, else by contract first; cps k: what a body at level k may allocate; ihk: kinds of what it makes; mac: places that are gone through in one stride -/
abbrev ab_Mc : Type := Nat → Nat → (Nat → Nat) → Nat → ab_S → Option (List ab_S)
def ab_oM (mac : ab_Mc) (cls : Nat → List ab_Cl) (cC cS mask X : Nat) (Ks : List ab_K) (hk : Nat → Nat) (y : Nat) (S : ab_S) : Option (List ab_S) := match mac cC cS hk y S with
  | some L => some L
  | none => ab_one cls cC cS mask X Ks hk y S
def ab_oI (cls : Nat → List ab_Cl) (mac : ab_Mc) (mask X : Nat) (Ks : List ab_K) (iy : Nat → Nat) (iht : Nat → Nat → List ab_Hn) (ihk : Nat → Nat → Nat) (cps : Nat → Nat × Nat) (fuel dI : Nat) : Nat → Nat → Nat → (Nat → Nat) → Nat → ab_S → Option (List ab_S)
  | 0, cC, cS, hk, y, S => ab_oM mac cls cC cS mask X (ab_kfl dI Ks) hk y S
  | k + 1, cC, cS, hk, y, S => match ee_pg y S.1 with
    | some i => bif (Nat.blt S.1 (nat_lit 1100) && (Nat.ble (nat_lit 39) i.1 && Nat.ble i.1 (nat_lit 42))) && !Nat.beq (iy i.2.2.1) (nat_lit 0) then (bif Nat.beq (iy i.2.2.1) (nat_lit 1) then ab_ci cls (cps k) mask X cC cS i.1 i.2.2.1 fuel (ab_oI cls mac mask X Ks iy iht ihk cps fuel dI k (cps k).1 (cps k).2 (ihk i.2.2.1) i.2.2.1) (iht i.2.2.1) S
        else match ab_oM mac cls cC cS mask X (ab_kfl (Nat.add dI (Nat.succ k)) Ks) hk y S with
        | some L => some L
        | none => ab_ci cls (cps k) mask X cC cS i.1 i.2.2.1 fuel (ab_oI cls mac mask X Ks iy iht ihk cps fuel dI k (cps k).1 (cps k).2 (ihk i.2.2.1) i.2.2.1) (iht i.2.2.1) S)
      else ab_oM mac cls cC cS mask X (ab_kfl (Nat.add dI (Nat.succ k)) Ks) hk y S
    | none => none
/-- what a stride owes, of dm frames -/
def ab_MS (cls : Nat → List ab_Cl) (l : Launch) (D : va_G) (dA : Nat → ClassId) (xa : List Nat) (xt : ee_X) (B mask X dm : Nat) (mac : ab_Mc) : Prop :=
  ∀ {p : Program} {e : Env} {R : Room} {s : State} {m : MethodId} {args : Array Value} {below : List Frame} {meth : Method} {c : Code} {Q : State → Prop} {rv0 : List Int} {sv0 : ab_B} {y d cC cS : Nat} {hk : Nat → Nat}, dm ≤ d → d ≤ R.frames ∧ 40 * d ≤ R.locals → cC + (6144 - sv0.2.2.2.2.2 / 1024) ≤ R.cells ∧ cS + (6291456 - sv0.2.2.2.2.2) ≤ R.slots → sv0.2.2.1 = ab_wm mask → sv0.2.2.2.2.1 = X → ee_C p s m args meth c D dA xa xt B y → y < ee_nM → ∀ {S : ab_S} {L : List ab_S}, mac cC cS hk y S = some L → (∀ S' ∈ L, ab_WS cls p l e R s m args below meth c Q D dA xa B rv0 sv0 y S') → ab_WS cls p l e R s m args below meth c Q D dA xa B rv0 sv0 y S
def ab_mc0 : ab_Mc := fun _ _ _ _ _ => none
theorem ab_mc0_snd {cls : Nat → List ab_Cl} {l : Launch} {D : va_G} {dA : Nat → ClassId} {xa : List Nat} {xt : ee_X} {B mask X : Nat} : ab_MS cls l D dA xa xt B mask X 1 ab_mc0 := by
  intro p e R s m args below meth c Q rv0 sv0 y d cC cS hk _ _ _ _ _ _ _ S L h _
  cases h
section II
variable {cls : Nat → List ab_Cl} {l : Launch} {D : va_G} {dA : Nat → ClassId} {xa : List Nat} {xt : ee_X} {B : Nat}
/-- the contract of an inlined body -/
theorem ab_inl_ct {cps : Nat × Nat} {b d0 fuel mask X : Nat} {as : List ab_A} {h0 : ab_H} {xs : List ab_X} {stp : ab_S → Option (List ab_S)} {ht : Nat → List ab_Hn} (hb1 : 1 ≤ b) (hbM : b < ee_nM) (hlo : (ab_los as).length ≤ ee_ml b) (hd1 : 1 ≤ d0)
    (hstp : ∀ (p : Program) (e : Env) (R : Room) (s : State) (m : MethodId) (args : Array Value) (below : List Frame) (meth : Method) (c : Code) (Q : State → Prop) (rv0 : List Int) (sv0 : ab_B) (d : Nat), d0 ≤ d → d ≤ R.frames ∧ 40 * d ≤ R.locals → (cps.1 + (6144 - sv0.2.2.2.2.2 / 1024) ≤ R.cells ∧ cps.2 + (6291456 - sv0.2.2.2.2.2) ≤ R.slots) → sv0.2.2.1 = ab_wm mask → sv0.2.2.2.2.1 = X → ee_C p s m args meth c D dA xa xt B b → ∀ S L, stp S = some L → (∀ S' ∈ L, ab_WS cls p l e R s m args below meth c Q D dA xa B rv0 sv0 b S') → ab_WS cls p l e R s m args below meth c Q D dA xa B rv0 sv0 b S)
    (hrx : ab_rx cls mask X stp ht b fuel [(nat_lit 0, ab_pad (ee_ml b) (ab_los as), [], h0, nat_lit 0, nat_lit 0)] [] = some xs) : ab_CT cls l D dA xa xt B ((b, d0), cps, (as, h0), xs, mask, X) := by
  intro d hd ke ks0 ws0 rv0 sv0 vs0 hG0 hA0 h29
  dsimp only at hd hG0 hA0 ⊢
  refine ct_met (d := d) (c' := cps.1 + (6144 - ab_ph ke ks0 ws0 / 1024)) (s' := cps.2 + (6291456 - ab_ph ke ks0 ws0)) hb1 hbM ?_ ?_
  · rintro vs ws ⟨rfl, rfl⟩
    rw [(ab_los_in hA0).1]
    exact hlo
  · rintro p e s m vs below meth c ws ls hC ⟨rfl, rfl⟩ hP hD hS hlv
    have hst : ab_px (sv0, (ks0, ws), ab_wm mask, ke, X, ab_ph ke ks0 ws) ks0 ws sv0 := ⟨List.prefix_refl sv0, ⟨ab_kp_rf, fun k κ q _ h2 => Or.inl h2, h29⟩, Nat.le_refl _⟩
    have hlo0 : ab_lo rv0 sv0 xa ls (ee_ml b) (ab_pad (ee_ml b) (ab_los as)) := by
      refine ⟨ab_pad_len _ _ hlo, _, hlv, fun i a ha => ?_⟩
      rcases ab_pad_at _ _ i a hlo ha with h9 | h9
      · exact Or.inl h9
      · rcases (ab_los_in hA0).2 0 i a h9 with h8 | ⟨v, v1, v2⟩
        · exact Or.inl h8
        · rw [Nat.zero_add] at v1
          exact Or.inr ⟨v, v1, v2⟩
    have hw := ab_rx_snd (cls := cls) (p := p) (l := l) (e := e) (R := ee_rm d (cps.1 + (6144 - ab_ph ke ks0 ws / 1024)) (cps.2 + (6291456 - ab_ph ke ks0 ws))) (s := s) (m := m) (args := vs.toArray) (below := below) (meth := meth) (c := c) (ke := ke) (ks0 := ks0) (ws0 := ws) (rv0 := rv0) (sv0 := sv0) (mask := mask) (X := X) hb1 hC hbM (fun S L hL k => hstp p e _ s m vs.toArray below meth c _ rv0 (sv0, (ks0, ws), ab_wm mask, ke, X, ab_ph ke ks0 ws) d hd ⟨Nat.le_refl _, Nat.le_refl _⟩ ⟨Nat.le_refl _, Nat.le_refl _⟩ rfl rfl hC S L hL k) hrx _ List.mem_cons_self
      ks0 ws rv0 sv0 s.heap [] ls [] (List.prefix_refl rv0) hst hG0 hP hD hS hlo0 trivial
    have e0 : (0 : Nat) + (ab_ph ke ks0 ws - ab_ph ke ks0 ws) = 0 := by omega
    have e0c : (0 : Nat) + (ab_ph ke ks0 ws / 1024 - ab_ph ke ks0 ws / 1024) = 0 := by omega
    have hw' : W p l e (ee_rm d (cps.1 + (6144 - ab_ph ke ks0 ws / 1024)) (cps.2 + (6291456 - ab_ph ke ks0 ws))) s m vs.toArray below meth c s.heap [] (0 + (ab_ph ke ks0 ws / 1024 - ab_ph ke ks0 ws / 1024)) (0 + (ab_ph ke ks0 ws - ab_ph ke ks0 ws)) (mq below (ct_Post D B (ab_Qx cls dA xa ke ks0 ws rv0 sv0 mask X xs)) vs.toArray s (fun q => B ≤ q)) (F0 m 0 ls []) := hw
    rw [e0, e0c] at hw'
    exact hw'
end II
section II2
variable {cls : Nat → List ab_Cl} {p : Program} {l : Launch} {e : Env} {R : Room} {s : State} {m : MethodId} {args : Array Value} {below : List Frame} {meth : Method} {c : Code} {Q : State → Prop} {D : va_G} {dA : Nat → ClassId} {xa : List Nat} {xt : ee_X} {B : Nat} {rv0 : List Int} {sv0 : ab_B} {y : Nat}
variable {pc a b n cC cS d : Nat} {r : List ab_A × List ab_A × ab_H × Nat × Nat} {L : List ab_S}
theorem as_inl {cps : Nat × Nat} {op mask X d0 fuel : Nat} {stp : ab_S → Option (List ab_S)} {ht : Nat → List ab_Hn} (hop : op = 39 ∨ op = 40 ∨ op = 41 ∨ op = 42) (hR : d ≤ R.frames ∧ 40 * d ≤ R.locals) (hd0 : 0 < d) (hcap : cC + (6144 - sv0.2.2.2.2.2 / 1024) ≤ R.cells ∧ cS + (6291456 - sv0.2.2.2.2.2) ≤ R.slots) (hmask : sv0.2.2.1 = ab_wm mask) (hXX : sv0.2.2.2.2.1 = X) (hC : ee_C p s m args meth c D dA xa xt B y) (hs : ee_sc y pc (op, a, b, n) = true)
    (hK : ∀ as h0 xs, (ab_los as).length ≤ ee_ml b → ab_rx cls mask X stp ht b fuel [(nat_lit 0, ab_pad (ee_ml b) (ab_los as), [], h0, nat_lit 0, nat_lit 0)] [] = some xs → ab_CT cls l D dA xa xt B ((b, d0), cps, (as, h0), xs, mask, X)) (hdp : d0 < d)
    (h : ab_ci cls cps mask X cC cS op b fuel stp ht (pc, r) = some L) (k : ∀ S ∈ L, ab_WS cls p l e R s m args below meth c Q D dA xa B rv0 sv0 y S) : ab_WS cls p l e R s m args below meth c Q D dA xa B rv0 sv0 y (pc, r) := by
  obtain ⟨lo, st, hh, ce, sl⟩ := r
  unfold ab_ci at h
  dsimp only at h
  split at h
  · rename_i as rest hspl
    cases hc : ab_cik cps cC cS op b as rest hh ce sl with
    | false => rw [ee_cf hc] at h; cases h
    | true =>
      rw [ee_ct hc] at h
      split at h
      · rename_i xs hrx
        cases h
        unfold ab_cik at hc
        simp only [Bool.and_eq_true] at hc
        obtain ⟨⟨⟨c1, c1'⟩, c2⟩, ⟨c3, c4⟩, c5, c6, c7⟩ := hc
        have y1 : 1 ≤ b := Nat.le_of_ble_eq_true c1
        have c4' : ab_cat rest ≤ 8 := Nat.le_of_ble_eq_true c4
        have c5' : (ab_los as).length ≤ ee_ml b := by
          have h9 := Nat.le_of_ble_eq_true c5
          rw [ee_len_eq] at h9
          exact h9
        have c6' : ce + cps.1 ≤ cC := Nat.le_of_ble_eq_true c6
        have c7' : sl + cps.2 ≤ cS := Nat.le_of_ble_eq_true c7
        intro ks ws rv sv H locs ls vs hr0 hs0 hG hP hD hS hl hv
        dsimp only at hG hl hv ⊢
        obtain ⟨vA, vr, ev, hA, hvr, hnA⟩ := ab_spl_snd (va := []) hspl hv trivial
        have ev' : vs = vA.reverse ++ vr := ev
        have hct := hK as hh xs c5' hrx (d - 1) (by show d0 ≤ d - 1; omega) sv0.2.2.2.1 ks ws rv sv vA hG hA hs0.2.1.2.2
        have hsz : ls.size = ee_ml y := by
          obtain ⟨-, lv, hlv, -⟩ := hl
          exact hlv.1
        have hph := ab_ph_le (ke := sv0.2.2.2.1) hG.2.2.2.2.1 hD
        have hb0 := hs0.2.2
        have hcat : (vr.map fun v => v.category).sum ≤ 8 := Nat.le_trans (ab_cat_le hvr) c4'
        have hcp : ce + (ab_ph sv0.2.2.2.1 ks ws / 1024 - sv0.2.2.2.2.2 / 1024) + (cps.1 + (6144 - ab_ph sv0.2.2.2.1 ks ws / 1024)) ≤ R.cells ∧ sl + (ab_ph sv0.2.2.2.1 ks ws - sv0.2.2.2.2.2) + (cps.2 + (6291456 - ab_ph sv0.2.2.2.1 ks ws)) ≤ R.slots := ⟨by have := hcap.1; omega, by have := hcap.2; omega⟩
        have onward : ∀ (v : Option Value) (ws1 : va_W) (H1 : Heap) (locs1 : List Loc) (k9 n9 : Nat), (∃ (x : ab_X) (ks1 : List Nat) (rv1 : List Int) (sv1 : List (Nat × Nat)), x ∈ xs ∧ rv <+: rv1 ∧ ab_px (sv, (ks, ws), ab_wm mask, sv0.2.2.2.1, X, ab_ph sv0.2.2.2.1 ks ws) ks1 ws1 sv1 ∧ ab_G cls dA xa ks1 ws1 rv1 sv1 x.2.1 ∧ ab_an rv1 sv1 xa v x.1 ∧ k9 = x.2.2.1 + (ab_ph sv0.2.2.2.1 ks1 ws1 / 1024 - ab_ph sv0.2.2.2.1 ks ws / 1024) ∧ n9 = x.2.2.2 + (ab_ph sv0.2.2.2.1 ks1 ws1 - ab_ph sv0.2.2.2.1 ks ws)) → va_P D ee_cl ws1 H1 → va_D (fun q => B ≤ q) ws1 → va_S (fun q => B ≤ q) s.heap H1 locs1 → W p l e R s m args below meth c H1 locs1 (ce + (ab_ph sv0.2.2.2.1 ks ws / 1024 - sv0.2.2.2.2.2 / 1024) + k9) (sl + (ab_ph sv0.2.2.2.1 ks ws - sv0.2.2.2.2.2) + n9) Q (F0 m (pc + 3) ls (v.toList ++ vr)) := by
          intro v ws1 H1 locs1 k9 n9 hq hP1 hD1 hS1
          obtain ⟨x, ks1, rv1, sv1, hx, hr1, hpx, hG1, han, rfl, rfl⟩ := hq
          have hpx' := ab_px_call (sv' := sv1) hs0 hpx rfl (fun κ hκ => by rw [hmask]; exact hκ) (by rw [hXX]; exact fun _ h9 => h9) hpx.1
          have hb1 : ab_ph sv0.2.2.2.1 ks ws ≤ ab_ph sv0.2.2.2.1 ks1 ws1 := hpx.2.2
          have es : sl + (ab_ph sv0.2.2.2.1 ks ws - sv0.2.2.2.2.2) + (x.2.2.2 + (ab_ph sv0.2.2.2.1 ks1 ws1 - ab_ph sv0.2.2.2.1 ks ws)) = sl + x.2.2.2 + (ab_ph sv0.2.2.2.1 ks1 ws1 - sv0.2.2.2.2.2) := by omega
          have ec : ce + (ab_ph sv0.2.2.2.1 ks ws / 1024 - sv0.2.2.2.2.2 / 1024) + (x.2.2.1 + (ab_ph sv0.2.2.2.1 ks1 ws1 / 1024 - ab_ph sv0.2.2.2.1 ks ws / 1024)) = ce + x.2.2.1 + (ab_ph sv0.2.2.2.1 ks1 ws1 / 1024 - sv0.2.2.2.2.2 / 1024) := by omega
          rw [es, ec]
          have hm := k _ (ab_map_in (f := ab_xst (Nat.add pc (nat_lit 3)) lo rest ce sl) hx)
          have p1 : rv <+: rv1 := hr1
          have p2 : sv <+: sv1 := hpx.1
          unfold ab_xst at hm
          cases hx0 : x.1 with
          | none =>
            rw [hx0] at han hm
            have hv0 : v = none := by
              cases v with
              | none => rfl
              | some v => cases han
            subst hv0
            exact hm ks1 ws1 rv1 sv1 H1 locs1 ls vr (hr0.trans p1) hpx' hG1 hP1 hD1 hS1 (ab_lo_mono p1 p2 hl) (ab_a2_mono (fun _ _ => ab_ok_mono p1 p2) hvr)
          | some a9 =>
            rw [hx0] at han hm
            cases v with
            | none => cases han
            | some v => exact hm ks1 ws1 rv1 sv1 H1 locs1 ls (v :: vr) (hr0.trans p1) hpx' hG1 hP1 hD1 hS1 (ab_lo_mono p1 p2 hl) ⟨han, ab_a2_mono (fun _ _ => ab_ok_mono p1 p2) hvr⟩
        have e2 : ee_na b = (bif Nat.beq op (nat_lit 39) || Nat.beq op (nat_lit 40) then Nat.succ (ee_np b) else ee_np b) := Nat.eq_of_beq_eq_true c2
        subst ev'
        have recv : (op = 39 ∨ op = 40) → ∃ (ax kk0 : Nat) (fs vB : List Value), vA = .ref ax :: vB ∧ vB.length = ee_np b ∧ ws[kk0]? = some (ax, .inr (ee_yc b, fs)) := by
          intro h9
          have hb9 : (Nat.beq op (nat_lit 39) || Nat.beq op (nat_lit 40)) = true := by
            rcases h9 with rfl | rfl <;> rfl
          rw [hb9] at e2
          unfold ab_rcv at c3
          rw [hb9] at c3
          obtain ⟨ax, kk0, fs, vB, e5, e6⟩ := ab_rcv1_snd hG (show ab_rcv1 b hh as = true from c3) hA
          refine ⟨ax, kk0, fs, vB, e5, ?_, e6⟩
          rw [e5] at hnA
          have hnA' : vB.length + 1 = 0 + ee_na b := hnA
          have e2' : ee_na b = ee_np b + 1 := e2
          omega
        have stat : (op = 41 ∨ op = 42) → vA.length = ee_np b := by
          intro h9
          have hb9 : (Nat.beq op (nat_lit 39) || Nat.beq op (nat_lit 40)) = false := by
            rcases h9 with rfl | rfl <;> rfl
          rw [hb9] at e2
          have e2' : ee_na b = ee_np b := e2
          rw [hnA, e2']
          exact Nat.zero_add _
        rcases hop with rfl | rfl | rfl | rfl
        · obtain ⟨ax, kk0, fs, vB, rfl, hvB, hws⟩ := recv (Or.inl rfl)
          rw [List.reverse_cons, List.append_assoc]
          exact sm_39 (P := fun vs9 ws9 => vs9 = .ref ax :: vB ∧ ws9 = ws) hR hd0 hC hs y1 hct hP hD hS hsz ⟨rfl, rfl⟩ hvB hcat hcp onward
        · obtain ⟨ax, kk0, fs, vB, rfl, hvB, hws⟩ := recv (Or.inr rfl)
          rw [List.reverse_cons, List.append_assoc]
          exact sm_40 (P := fun vs9 ws9 => vs9 = .ref ax :: vB ∧ ws9 = ws) hR hd0 hC hs y1 hct hP hD hS hsz hws ⟨rfl, rfl⟩ hvB hcat hcp onward
        · exact sm_41 (P := fun vs9 ws9 => vs9 = vA ∧ ws9 = ws) hR hd0 hC hs y1 hct hP hD hS hsz ⟨rfl, rfl⟩ (stat (Or.inl rfl)) hcat hcp onward
        · exact sm_42 (P := fun vs9 ws9 => vs9 = vA ∧ ws9 = ws) hR hd0 hC hs y1 hct hP hD hS hsz ⟨rfl, rfl⟩ (stat (Or.inr rfl)) hcat hcp onward
      · cases h
  · cases h
end II2
