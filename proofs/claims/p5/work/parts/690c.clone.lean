/-! ===== the stride over clone() in Arrays.copyOf ===== -/
def jn_clo : MethodName := ⟨"[I", "clone", "()Ljava/lang/Object;"⟩
def jn_clb : MethodName := ⟨"java/lang/Object", "clone", "()Ljava/lang/Object;"⟩
theorem jw_clo_l : Cond.methodLink "java/util/Arrays" 316 jn_clo ∈ ee_good := ee_gw_in (pos := 672) (by decide +kernel)
theorem jw_clo_m : Cond.sameMethod "[I" "java/lang/Object" "clone" "()Ljava/lang/Object;" ∈ ee_good := ee_gw_in (pos := 673) (by decide +kernel)
theorem jw_clo_n : Cond.native jn_clb ∈ ee_good := ee_gw_in (pos := 674) (by decide +kernel)
theorem jw_clo_i : Cond.instanceMethod jn_clb ∈ ee_good := ee_gw_in (pos := 675) (by decide +kernel)
theorem jw_clo_s : Cond.selects "[I" jn_clo jn_clb ∈ ee_good := ee_gw_in (pos := 676) (by decide +kernel)
theorem jw_clo_c : Cond.classLink "java/util/Arrays" 317 "[I" ∈ ee_good := ee_gw_in (pos := 678) (by decide +kernel)
theorem jd_clo_6 : decode (ee_cb 146) 6 = .ok (.aload_n 0, 1) := by decide +kernel
theorem jd_clo_7 : decode (ee_cb 146) 7 = .ok (.invokevirtual 316, 3) := by decide +kernel
theorem jd_clo_10 : decode (ee_cb 146) 10 = .ok (.checkcast 317, 3) := by decide +kernel
theorem jo_clo : ee_on.getD (ee_yc 146) "" = "java/util/Arrays" := by decide +kernel
/-- bounds of a row's length -/
def ab_lnb (h : ab_H) (i : Nat) (qs : Nat × Int × Int) : Int × Int := match ab_ff h.2.2.2.1 i (nat_lit 2, nat_lit 0, 0, 0) with
  | some (.inl g0) => (match ab_bd h.1 g0 with
    | some q => q
    | none => (qs.2.1, qs.2.2))
  | _ => (qs.2.1, qs.2.2)
def ab_c3l (i j : Nat) : List ab_F → List ab_F
  | [] => []
  | w :: fs => bif Nat.beq w.1 i && Nat.beq w.2.1.1 (nat_lit 3) then (j, w.2.1, w.2.2) :: ab_c3l i j fs else ab_c3l i j fs
def ab_ocl (cC cS κ : Nat) : ab_S → Option (List ab_S)
  | (pc, lo, [], h, ce, sl) => (match ee_nth lo (nat_lit 0), ee_nth lo (nat_lit 1) with
    | some (.inr (.inl (z + 1))), some (.inl g) => ee_f (Nat.div z (nat_lit 2)) fun i => (match ee_nth h.2.2.1 i, ab_bd h.1 g with
      | some κs, some pp => (match ab_ka κs with
        | some qs => bif (Nat.beq (Nat.mod z (nat_lit 2)) (nat_lit 0) && (Nat.beq qs.1 (nat_lit 0) && !Nat.beq κs (nat_lit 37))) && ((decide (pp.1 = pp.2) && (decide ((ab_lnb h i qs).1 = pp.1) && decide ((ab_lnb h i qs).2 = pp.1))) && (ab_tyx (ab_ke κs (nat_lit 0)) (ab_ke κ (nat_lit 0)) && ab_mkc cC cS κ (nat_lit 0) 67108864 h pp ce sl (.inl (nat_lit 0, 0, 0)))) then (ee_f (ee_len h.2.2.1) fun j => ee_f (Nat.add sl pp.2.toNat) fun sl' => ee_f (Nat.succ ce) fun ce' => some [(Nat.add pc (nat_lit 7), lo, [.inr (.inl (Nat.succ (Nat.mul (nat_lit 2) j)))], (h.1, h.2.1, ab_snoc h.2.2.1 κ, (j, (nat_lit 2, nat_lit 0, 0, 0), .inl g) :: ab_app (ab_c3l i j h.2.2.2.1) h.2.2.2.1, h.2.2.2.2), ce', sl')]) else none
        | none => none)
      | _, _ => none)
    | _, _ => none)
  | _ => none
theorem ab_c3l_in {i j : Nat} {fs : List ab_F} {g : ab_F} (hg : g ∈ ab_c3l i j fs) : ∃ (k : ab_L) (a : ab_A), (i, (3, k), a) ∈ fs ∧ g = (j, (3, k), a) := by
  induction fs with
  | nil => cases hg
  | cons q l ih =>
    unfold ab_c3l at hg
    cases hc : (Nat.beq q.1 i && Nat.beq q.2.1.1 (nat_lit 3)) with
    | false =>
      rw [hc, ee_cf rfl] at hg
      obtain ⟨k, a, h1, h2⟩ := ih hg
      exact ⟨k, a, List.mem_cons_of_mem _ h1, h2⟩
    | true =>
      rw [hc, ee_ct rfl] at hg
      rcases List.mem_cons.mp hg with rfl | hg
      · rw [Bool.and_eq_true] at hc
        obtain ⟨q1, ⟨t1, k1⟩, a1⟩ := q
        have e1 : q1 = i := Nat.eq_of_beq_eq_true hc.1
        have e2 : t1 = 3 := Nat.eq_of_beq_eq_true hc.2
        subst e1; subst e2
        exact ⟨k1, a1, List.mem_cons_self, rfl⟩
      · obtain ⟨k, a, h1, h2⟩ := ih hg
        exact ⟨k, a, List.mem_cons_of_mem _ h1, h2⟩
theorem ab_tyx_tv {ks ad : List Nat} {x : Int32} {t1 t2 : ab_T} (h : ab_tyx t1 t2 = true) (hv : ab_tv ks ad (.int x) t1) : ab_tv ks ad (.int x) t2 := by
  match t2, h with
  | .inr (.inr _), _ => exact Or.inr (Or.inr ⟨x, rfl⟩)
  | .inl q, h =>
    match t1, h, hv with
    | .inl p, h, ⟨x9, e9, h1, h2⟩ =>
      have h9 : (decide (q.1 ≤ p.1) && decide (p.2 ≤ q.2)) = true := h
      rw [Bool.and_eq_true, decide_eq_true_eq, decide_eq_true_eq] at h9
      exact ⟨x9, e9, by omega, by omega⟩
    | .inr _, h, _ => cases h
  | .inr (.inl n), h =>
    match t1, h with
    | .inl p, h => cases h
    | .inr _, h => cases h
section OCL
variable {cls : Nat → List ab_Cl} {p : Program} {l : Launch} {e : Env} {R : Room} {s : State} {m : MethodId} {args : Array Value} {below : List Frame} {meth : Method} {c : Code} {Q : State → Prop} {D : va_G} {dA : Nat → ClassId} {xa : List Nat} {xt : ee_X} {B : Nat} {rv0 : List Int} {sv0 : ab_B}
variable {cC cS d : Nat} {r : List ab_A × List ab_A × ab_H × Nat × Nat} {L : List ab_S}
theorem ab_lnb_in {ks : List Nat} {ws : va_W} {rv : List Int} {sv : List (Nat × Nat)} {hh : ab_H} (hG : ab_G cls dA xa ks ws rv sv hh) {i N : Nat} {qs : Nat × Int × Int} {w : Nat × Nat} {f : Nat → Int32} (w1 : sv[i]? = some w) (w3 : ws[w.1]? = some (w.2, .inl (dA 0, N, .inl f))) (h1 : qs.2.1 ≤ (N : Int)) (h2 : (N : Int) ≤ qs.2.2) : (ab_lnb hh i qs).1 ≤ (N : Int) ∧ (N : Int) ≤ (ab_lnb hh i qs).2 := by
  unfold ab_lnb
  split
  · rename_i g0 hg0
    split
    · rename_i q hq
      obtain ⟨q4, e4, i4, v4, f1, f2, f3, f4, x4, f5, f6⟩ := hG.2.2.2.1 _ (ab_ff_in hg0)
      have f1' : sv[i]? = some q4 := f1
      rw [w1] at f1'
      cases f1'
      rw [w3] at f2
      cases f2
      have f4' : (if N < 2147483648 then some (Value.int (Int32.ofNat N)) else none) = some v4 := f4
      by_cases hn : N < 2147483648
      · rw [if_pos hn, f5] at f4'
        have e7 : (Int32.ofNat N).toInt = (N : Int) := nI_toInt (n := N) (by omega)
        have e8 : Int32.ofNat N = x4 := by
          have := Option.some.inj f4'
          injection this
        have f6' : ab_ev rv g0 = some (N : Int) := by
          rw [← e7, e8]
          exact f6
        exact ab_bd_in hG.1 hq f6'
      · rw [if_neg hn] at f4'
        cases f4'
    · exact ⟨h1, h2⟩
  · exact ⟨h1, h2⟩
theorem as_cl {κ : Nat} (hd1 : 1 ≤ d) (hR : d ≤ R.frames ∧ 40 * d ≤ R.locals) (hcap : cC + (6144 - sv0.2.2.2.2.2 / 1024) ≤ R.cells ∧ cS + (6291456 - sv0.2.2.2.2.2) ≤ R.slots) (hnc : ∀ κ, ab_nc κ = true → cls κ = []) (hcok : ab_cok2 cls) (hC : ee_C p s m args meth c D dA xa xt B 146) (h : ab_ocl cC cS κ (6, r) = some L) (k : ∀ S ∈ L, ab_WS cls p l e R s m args below meth c Q D dA xa B rv0 sv0 146 S) : ab_WS cls p l e R s m args below meth c Q D dA xa B rv0 sv0 146 (6, r) := by
  unfold ab_ocl at h
  split at h
  · rename_i pc' lo hh ce sl heq
    cases heq
    split at h
    · rename_i z g hl0 hl1
      rw [ee_f_eq] at h
      split at h
      · rename_i κs pp hκ hpp
        split at h
        · rename_i qs hka
          obtain ⟨hc, h⟩ := ab_bif h
          simp only [ee_f_eq, ee_len_eq] at h
          cases h
          have k := k _ List.mem_cons_self
          simp only [Bool.and_eq_true, decide_eq_true_eq] at hc
          obtain ⟨⟨c1, c2, c3⟩, ⟨c4, c5, c6⟩, c7, c8⟩ := hc
          obtain ⟨q, kka, kko, d2, d3, d4, d5, d6, d7, -, d9, d10⟩ := ab_mkc_spec c8
          have s37 : Nat.beq κs 37 = false := by
            cases h9 : Nat.beq κs 37 with
            | false => rfl
            | true => rw [show Nat.beq κs (nat_lit 37) = true from h9] at c3; cases c3
          rw [ee_nth_eq] at hκ
          intro ks ws rv sv H locs ls vs hr0 hs0 hG hP hD hS hl hv
          match vs, hv with
          | [], _ =>
            obtain ⟨v0, l0, o0⟩ := ab_lo_get hl hl0 (fun h9 => by cases h9)
            obtain ⟨v1, l1, o1⟩ := ab_lo_get hl hl1 (fun h9 => by cases h9)
            obtain ⟨w, hw1, rfl⟩ := ab_nnul c1 o0
            obtain ⟨xg, rfl, hxg⟩ := o1
            obtain ⟨w', N, f, y1, y2, y3, y4, y5, y6, -⟩ := ab_int_cell hG hκ hka (Nat.eq_of_beq_eq_true c2)
            have ew : w = w' := by
              have h9 : sv[z / 2]? = some w' := y1
              rw [hw1] at h9
              exact Option.some.inj h9
            subst ew
            have bx := ab_bd_in hG.1 hpp hxg
            have bN : (ab_lnb hh (Nat.div z (nat_lit 2)) qs).1 ≤ (N : Int) ∧ (N : Int) ≤ (ab_lnb hh (Nat.div z (nat_lit 2)) qs).2 := ab_lnb_in hG y1 y3 y4 y5
            rw [c5, c6] at bN
            have eN : pp.2.toNat = N := by omega
            have hg : ab_ev rv g = some (N : Int) := by
              rw [hxg]
              congr 1
              omega
            have hN31 : N < 2147483648 := by omega
            obtain ⟨he, hb, hml, hown, hts, hGG, hB, -⟩ := id hC
            rw [jo_clo] at hown
            have hsz : c.maxLocals = ls.size := by
              obtain ⟨-, lv, hlv, -⟩ := hl
              exact hml.trans hlv.1.symm
            have hnm : s.vm.findClass "[I" = some (dA 0) := (hGG.1.2 0 (dA 0, .int) rfl).2
            have hphb : ab_ph sv0.2.2.2.1 ks ws ≤ ab_phb hh := ab_phb_snd (sv0 := sv0) hG hD hs0.2.1.2.2
            have hph := ab_ph_le (ke := sv0.2.2.2.1) hG.2.2.2.2.1 hD
            have hb0 := hs0.2.2
            have hcap2 : ce + (ab_ph sv0.2.2.2.1 ks ws / 1024 - sv0.2.2.2.2.2 / 1024) + 1 ≤ R.cells ∧ sl + (ab_ph sv0.2.2.2.1 ks ws - sv0.2.2.2.2.2) + N ≤ R.slots := ⟨by have := hcap.1; omega, by have := hcap.2; omega⟩
            show W p l e R s m args below meth c H locs (ce + (ab_ph sv0.2.2.2.1 ks ws / 1024 - sv0.2.2.2.2.2 / 1024)) (sl + (ab_ph sv0.2.2.2.1 ks ws - sv0.2.2.2.2.2)) Q (F0 m 6 ls [])
            refine lv_aload_n he hb jd_clo_6 rfl l0 ?_
            refine va_clone (rest := []) (x := (N, .inl f)) he hb hsz hown (hts _ jw_clo_l) (hts _ jw_clo_m) (hts _ jw_clo_n) (hts _ jw_clo_i) (hts _ jw_clo_s) hGG.2.1.2 hGG.1 hP hD hS (fun q h9 => Nat.le_trans hB h9) w.1 0 y3 rfl hnm (fun i v hv9 => ?_) (by omega) (by show 0 + 14 ≤ _; omega) hcap2.1 hcap2.2 jd_clo_7 (fun qa H1 _ hP1 hD1 hS1 => ?_)
            · have hi : i < N := by
                have h9 := (Array.getElem?_eq_some_iff.mp hv9).1
                rw [vp_cell_i, arrV_size] at h9
                exact h9
              rw [vp_cell_i, arrV_read _ _ hi] at hv9
              cases hv9
              rfl
            · have hnew : (ws ++ [(qa, (.inl (dA 0, N, .inl f) : va_E))])[ws.length]? = some (qa, .inl (dA 0, N, .inl f)) := by simp
              refine va_castA (x := (N, .inl f)) he hb hown (hts _ jw_clo_c) hP1 ws.length hnew hnm jd_clo_10 ?_
              have hcell : ab_cell dA ks (ws.map (·.1)) κ (.inl (dA 0, N, .inl f)) := by
                refine ⟨fun ci9 ts9 h9 => (by rw [kko] at h9; cases h9), fun t9 lo9 hi9 h9 => ?_, ab_c3_no (by rintro rfl; cases (show ab_nc 17 = true from d7)) (by rintro rfl; cases (show ab_nc 37 = true from d7))⟩
                rw [kka] at h9
                cases h9
                refine Or.inl ⟨Or.inl d6, N, f, by rw [show (t9 : Nat) = 0 from d6], by dsimp only at d4; omega, by dsimp only at d5; omega, fun i hi => ?_⟩
                rw [ab_ke_u (ab_nc37 d7)]
                have h8 := y6 i hi
                rw [ab_ke_u s37] at h8
                exact ab_tyx_tv c7 h8
              have hG2 := ab_G_mk (qa := qa) hG hcok (hnc κ d7) hcell
              have p2 : sv <+: sv ++ [(ws.length, qa)] := List.prefix_append sv _
              have hsl : sv.length = hh.2.2.1.length := hG.2.2.1.1
              have hnms : (sv ++ [(ws.length, qa)])[hh.2.2.1.length]? = some (ws.length, qa) := by rw [← hsl]; simp
              have hn29 : κ ≠ 29 := by
                rintro rfl
                cases (show ab_nc 29 = true from d7)
              have hG3 : ab_G cls dA xa (ks ++ [κ]) (ws ++ [(qa, .inl (dA 0, N, .inl f))]) rv (sv ++ [(ws.length, qa)]) (hh.1, hh.2.1, ab_snoc hh.2.2.1 κ, (hh.2.2.1.length, (2, 0, 0, 0), .inl g) :: ab_app (ab_c3l (Nat.div z 2) hh.2.2.1.length hh.2.2.2.1) hh.2.2.2.1, hh.2.2.2.2) := by
                refine ⟨hG2.1, hG2.2.1, hG2.2.2.1, fun g9 h9 => ?_, hG2.2.2.2.2.1, hG2.2.2.2.2.2⟩
                rcases List.mem_cons.mp h9 with rfl | h9
                · refine ⟨(ws.length, qa), .inl (dA 0, N, .inl f), 0, .int (Int32.ofNat N), hnms, hnew, rfl, ?_, ⟨_, rfl, ?_⟩⟩
                  · show (if N < 2147483648 then some (Value.int (Int32.ofNat N)) else none) = _
                    rw [if_pos hN31]
                  · have e7 : (Int32.ofNat N).toInt = (N : Int) := nI_toInt (n := N) (by omega)
                    rw [e7]
                    exact hg
                · rw [ab_app_eq] at h9
                  rcases List.mem_append.mp h9 with h9 | h9
                  · obtain ⟨k3, a3, m1, rfl⟩ := ab_c3l_in h9
                    obtain ⟨q5, e5, i5, v5, g1, g2, g3, g4, g5⟩ := hG.2.2.2.1 _ m1
                    have g1' : sv[z / 2]? = some q5 := g1
                    rw [hw1] at g1'
                    cases g1'
                    rw [y3] at g2
                    cases g2
                    exact ⟨(ws.length, qa), .inl (dA 0, N, .inl f), i5, v5, hnms, hnew, g3, g4, ab_ok_mono (List.prefix_refl rv) p2 g5⟩
                  · exact hG2.2.2.2.1 g9 h9
              have k9 := k (ks ++ [κ]) _ rv (sv ++ [(ws.length, qa)]) H1 locs ls [.ref qa] hr0 (ab_px_new hs0 p2 hn29 (ab_ph_new hG.2.2.2.2.1 hD hn29)) hG3 hP1 hD1 hS1 (ab_lo_mono (List.prefix_refl rv) p2 hl) ⟨Or.inl ⟨(ws.length, qa), ?_, rfl⟩, trivial⟩
              · dsimp only at k9
                rw [ab_ph_new (ke := sv0.2.2.2.1) hG.2.2.2.2.1 hD hn29] at k9
                rw [Nat.add_right_comm ce, Nat.add_right_comm sl]
                exact W.widen (Nat.le_refl _) (Nat.add_le_add_right (Nat.add_le_add_left (Nat.le_of_eq eN.symm) sl) _) k9
              · have e3 : Nat.mul 2 hh.2.2.1.length / 2 = hh.2.2.1.length := by
                  show (2 * hh.2.2.1.length) / 2 = _
                  omega
                show (sv ++ [(ws.length, qa)])[Nat.mul 2 hh.2.2.1.length / 2]? = _
                rw [e3]
                exact hnms
        · cases h
      · cases h
    · cases h
  · cases h
end OCL
def ab_mcC : ab_Mc := fun cC cS hk y S => bif Nat.beq y (nat_lit 146) && Nat.beq S.1 (nat_lit 6) then ab_ocl cC cS (hk (nat_lit 6)) S else none
theorem ab_mcC_snd {l : Launch} {D : va_G} {dA : Nat → ClassId} {xa : List Nat} {xt : ee_X} {B mask X : Nat} : ab_MS ab_cls l D dA xa xt B mask X 1 ab_mcC := by
  intro p e R s m args below meth c Q rv0 sv0 y d cC cS hk hd hR hcap hmask hXX hC hyM S L h kk
  unfold ab_mcC at h
  obtain ⟨hc, h⟩ := ab_bif h
  rw [Bool.and_eq_true] at hc
  have e1 : y = 146 := Nat.eq_of_beq_eq_true hc.1
  subst e1
  obtain ⟨pc, r⟩ := S
  have e2 : pc = 6 := Nat.eq_of_beq_eq_true hc.2
  subst e2
  exact as_cl hd hR hcap ab_hnc ab_hcok2 hC h kk
