/-! ===== calls ===== -/
theorem ee_subL (a : Nat) : Nat.sub a (nat_lit 2147483648) = a - 2147483648 := rfl
def ee_wsy (y : Nat) : List Cond := .code (ee_yn y) (ee_cb y) (ee_ml y) (ee_rt y) :: ee_good
def ee_rm (d cells slots : Nat) : Room := { frames := d, cells := cells, slots := slots, locals := 40 * d }
def ee_Pre (D : va_G) (dA : Nat → ClassId) (xa : List Nat) (xt : ee_X) (B : Nat) (ad : List Nat) (As : List ee_V) (h : ee_H) : Array Value → State → Prop := fun a U =>
  ∃ (vs : List Value) (ws : va_W), a = vs.toArray ∧ ee_a2 (ee_ok ad xa) vs As ∧ ee_wd dA ad xa ws h ∧ va_P D ee_cl ws U.heap ∧ va_D (fun q => B ≤ q) ws ∧ ee_G D dA xa xt B U ∧ B ≤ U.heap.size
def ee_rv (ad xa : List Nat) : Option Value → Option ee_V → Prop
  | none, none => True
  | some v, some a => ee_ok ad xa v a
  | _, _ => False
def ee_Post (D : va_G) (dA : Nat → ClassId) (xa : List Nat) (B : Nat) (ad : List Nat) (rv : Option ee_V) (h : ee_H) : Array Value → State → Outcome → State → Prop := fun _ st o t =>
  (∃ (v : Option Value) (ad' : List Nat) (ws : va_W), o = .returned v ∧ ee_rv ad' xa v rv ∧ ad <+: ad' ∧ ee_wd dA ad' xa ws h ∧ va_P D ee_cl ws t.heap ∧ va_D (fun q => B ≤ q) ws) ∧ va_F (fun q => B ≤ q) st t
/-- what a call's function promises -/
def ee_CS (l : Launch) (D : va_G) (dA : Nat → ClassId) (xa : List Nat) (xt : ee_X) (B d : Nat) (call : Nat → List ee_V → ee_H → Option ee_R) : Prop :=
  ∀ (y : Nat) (As : List ee_V) (h : ee_H) (rv : Option ee_V) (h' : ee_H) (c' s' : Nat), call y As h = some (rv, h', c', s') → 1 ≤ d ∧ 1 ≤ y ∧ y < ee_nM ∧ ∀ ad : List Nat, Met l (ee_yn y) (ee_wsy y) (ee_rm (d - 1) c' s') (ee_Pre D dA xa xt B ad As h) (ee_Post D dA xa B ad rv h') c' s' (fun q => B ≤ q)
theorem ee_blind {D : va_G} {dA : Nat → ClassId} {xa : List Nat} {xt : ee_X} {B : Nat} {ad : List Nat} {As : List ee_V} {h : ee_H} : FrameBlind (ee_Pre D dA xa xt B ad As h) := by
  intro a U g mk hP
  obtain ⟨vs, ws, h1, h2, h3, h4, h5, h6, h7⟩ := hP
  exact ⟨vs, ws, h1, h2, h3, h4, h5, ee_G_warm (U := U.calling g mk a) (State.WarmedH.refl U) (fun _ _ => rfl) h6, h7⟩
section ES6
variable {p : Program} {l : Launch} {e : Env} {R : Room} {s : State} {m : MethodId} {args : Array Value} {below : List Frame} {meth : Method} {c : Code} {Q : State → Prop} {D : va_G} {dA : Nat → ClassId} {xa : List Nat} {xt : ee_X} {B : Nat} {ad0 : List Nat} {y : Nat}
variable {pc a b n : Nat} {r : List ee_V × List ee_V × ee_H × Nat × Nat} {S' : ee_S}
theorem ee_callk {H : Heap} {locs : List Loc} {cells slots mc ms : Nat} {ls : Array Slot} {st0 rest : List Value} {ad : List Nat} {rv : Option ee_V} {h' : ee_H} {aa : Array Value}
    (hr : va_Run p l e R s m args below meth c H locs cells slots mc ms (F0 m pc ls st0) rest (ee_Post D dA xa B ad rv h' aa) (fun q => B ≤ q)) (hS : va_S (fun q => B ≤ q) s.heap H locs)
    (kk : ∀ (v : Option Value) (ad' : List Nat) (ws : va_W) (H1 : Heap) (locs1 : List Loc), ee_rv ad' xa v rv → ad <+: ad' → ee_wd dA ad' xa ws h' → va_P D ee_cl ws H1 → va_D (fun q => B ≤ q) ws → va_S (fun q => B ≤ q) s.heap H1 locs1 → W p l e R s m args below meth c H1 locs1 (cells + mc) (slots + ms) Q (F0 m (pc + 3) ls (v.toList ++ rest))) :
    W p l e R s m args below meth c H locs cells slots Q (F0 m pc ls st0) := by
  intro T hT X
  obtain ⟨v, st₀, t, T', L, h0, X', hL, e1, e2, ⟨⟨v', ad', ws, hv, hp, hb1, hb2, hb3, hb4⟩, hz, hk⟩, st⟩ := hr T hT X
  cases hv
  rw [h0] at hz hk
  obtain ⟨t2, a1, b1⟩ := kk v ad' ws T'.heap (locs ++ L) hp hb1 hb2 (by rw [e1]; exact hb3) hb4
    ⟨Nat.le_trans hS.1 (by rw [e1]; exact hz), fun q h1 h2 => by rw [e1, hk q (Nat.lt_of_lt_of_le h1 hS.1) h2]; exact hS.2.1 q h1 h2, fun q hq => by
      rcases List.mem_append.mp hq with h | h
      · exact hS.2.2 q h
      · exact hL q h⟩ T' rfl X'
  exact ⟨t2, st t2 a1, b1⟩
theorem ee_take_eq : ∀ {n : Nat} {st acc As st' : List ee_V}, ee_take n st acc = some (As, st') → ∃ P : List ee_V, As = P ++ acc ∧ st = P.reverse ++ st' ∧ P.length = n
  | 0, st, acc, As, st', h => by
    cases h
    exact ⟨[], rfl, rfl, rfl⟩
  | n + 1, [], acc, As, st', h => by cases h
  | n + 1, v :: st, acc, As, st', h => by
    unfold ee_take at h
    cases hv : ee_isv v with
    | false => rw [ee_cf hv] at h; cases h
    | true =>
      rw [ee_ct hv] at h
      obtain ⟨P, h1, h2, h3⟩ := ee_take_eq h
      refine ⟨P ++ [v], ?_, ?_, by simp [h3]⟩
      · rw [h1]; simp
      · rw [h2]; simp
theorem es_o38 {d : Nat} (hR : d ≤ R.frames ∧ 40 * d ≤ R.locals) (hC : ee_C p s m args meth c D dA xa xt B y) (hs : ee_sc y pc (38, a, b, n) = true) (h : ee_o38 d n (pc, r) = some S') (k : ee_WS p l e R s m args below meth c Q D dA xa B ad0 y S') : ee_WS p l e R s m args below meth c Q D dA xa B ad0 y (pc, r) := by
  obtain ⟨q, hq, hd, hn, hx, -⟩ := ee_sc_spec hs
  obtain ⟨he, hb, hml, hown, hts, hG, hB, -⟩ := id hC
  cases (show some (Instr.invokespecial a, 3) = some q from hq)
  cases hn
  unfold ee_o38 at h
  split at h
  · rename_i pc' lo kk st r' heq
    cases heq
    cases h1 : (Nat.blt (nat_lit 0) d && Nat.ble (ee_len st) (nat_lit 8)) with
    | false => rw [ee_cf h1] at h; cases h
    | true =>
      rw [ee_ct h1] at h
      rw [Bool.and_eq_true, ee_len_eq] at h1
      have d1 : 0 < d := Nat.le_of_ble_eq_true h1.1
      have d2 : st.length ≤ 8 := Nat.le_of_ble_eq_true h1.2
      cases h
      intro ad ws H locs ls vs hp hwd hP hD hS hl hv
      match vs, hv with
      | vr :: vs, ⟨⟨ax, _, er⟩, hvt⟩ =>
        subst er
        have hcat := ee_cats hvt
        have hsz : ls.size = ee_ml y := hl.2.choose_spec.1.1
        refine W.objInit (a := ax) (rest := vs) he hb hown (hts _ (ee_word (show ee_rsq y a 10 0 = true from hx) (w := .methodLink (ee_on.getD (ee_yc y) "") a objectInit) (by decide) (by decide) (by decide) rfl)) (hts _ ee_ow1) (hts _ ee_ow2) rfl (by rw [hml]; exact hsz) rfl hd (by omega) (by show 2 * 0 + _ + 12 ≤ _; rw [hcat]; omega) ?_
        exact k ad ws H locs ls vs hp hwd hP hD hS hl hvt
  · cases h
theorem es_o55 {d : Nat} (hR : d ≤ R.frames ∧ 40 * d ≤ R.locals) (hC : ee_C p s m args meth c D dA xa xt B y) (hs : ee_sc y pc (55, a, b, n) = true) (h : ee_o55 d n (pc, r) = some S') (hcap : S'.2.2.2.2.1 ≤ R.cells ∧ S'.2.2.2.2.2 ≤ R.slots) (k : ee_WS p l e R s m args below meth c Q D dA xa B ad0 y S') : ee_WS p l e R s m args below meth c Q D dA xa B ad0 y (pc, r) := by
  obtain ⟨q, hq, hd, hn, hx, -⟩ := ee_sc_spec hs
  obtain ⟨he, hb, hml, hown, hts, hG, hB, -⟩ := id hC
  cases (show some (Instr.invokestatic a, 3) = some q from hq)
  cases hn
  unfold ee_o55 at h
  split at h
  · rename_i pc' lo wy wx st r' heq
    cases heq
    cases h1 : (Nat.beq wy.1 wy.2 && (Nat.beq wx.1 wx.2 && (Nat.blt (nat_lit 0) d && Nat.ble (ee_len st) (nat_lit 8)))) with
    | false => rw [ee_cf h1] at h; cases h
    | true =>
      rw [ee_ct h1] at h
      rw [Bool.and_eq_true, Bool.and_eq_true, Bool.and_eq_true, ee_len_eq] at h1
      have b1 : wy.1 = wy.2 := Nat.eq_of_beq_eq_true h1.1
      have b2 : wx.1 = wx.2 := Nat.eq_of_beq_eq_true h1.2.1
      have d1 : 0 < d := Nat.le_of_ble_eq_true h1.2.2.1
      have d2 : st.length ≤ 8 := Nat.le_of_ble_eq_true h1.2.2.2
      obtain ⟨wr, hS9, hwr⟩ : ∃ wr, S' = (Nat.add pc 3, lo, .inl wr :: st, r') ∧ wr = (if wy.1 < wx.1 then wy else wx) := by
        cases h2 : Nat.blt wy.1 wx.1 with
        | true =>
          rw [ee_ct h2] at h
          cases h
          exact ⟨_, rfl, by rw [if_pos (show wy.1 < wx.1 from Nat.le_of_ble_eq_true h2)]⟩
        | false =>
          rw [ee_cf h2] at h
          cases h
          refine ⟨_, rfl, ?_⟩
          rw [if_neg]
          intro z
          have : Nat.blt wy.1 wx.1 = true := Nat.ble_eq_true_of_le z
          rw [h2] at this
          cases this
      subst hS9
      intro ad ws H locs ls vs hp hwd hP hD hS hl hv
      match vs, hv with
      | v1 :: v2 :: vs, ⟨⟨yv, e1, hy1⟩, ⟨xv, e2, hx1⟩, hvt⟩ =>
        subst e1; subst e2
        have hcat := ee_cats hvt
        have hsz : ls.size = ee_ml y := hl.2.choose_spec.1.1
        have hin : ee_in (if yv < xv then yv else xv) wr := by
          rw [hwr]
          have z1 := hy1.1; have z2 := hy1.2; have z3 := hx1.1; have z4 := hx1.2
          by_cases hlt : wy.1 < wx.1
          · rw [if_pos hlt, if_pos (ee_zltI.mpr (by omega))]; exact hy1
          · rw [if_neg hlt, if_neg (fun z => by rw [ee_zltI] at z; omega)]; exact hx1
        exact va_mmin he hb (by rw [hml, hsz]) hown (hts _ (ee_word (show ee_rsq y a 11 0 = true from hx) (w := .methodLink (ee_on.getD (ee_yc y) "") a Lib.Math.min.name) (by decide) (by decide) (by decide) rfl)) (hts _ ee_nw1) (hts _ ee_nw2) (hts _ ee_nw3) (by omega) (by rw [hcat]; omega) hcap.1 hcap.2 hd
          (k ad ws H locs ls (.int (if yv < xv then yv else xv) :: vs) hp hwd hP hD hS hl ⟨⟨_, rfl, hin⟩, hvt⟩)
  · cases h
theorem es_o43 {d : Nat} (hR : d ≤ R.frames ∧ 40 * d ≤ R.locals) (hC : ee_C p s m args meth c D dA xa xt B y) (hs : ee_sc y pc (43, a, b, n) = true) (h : ee_o43 d n (pc, r) = some S') (k : ee_WS p l e R s m args below meth c Q D dA xa B ad0 y S') : ee_WS p l e R s m args below meth c Q D dA xa B ad0 y (pc, r) := by
  obtain ⟨q, hq, hd, hn, hx, -⟩ := ee_sc_spec hs
  obtain ⟨he, hb, hml, hown, hts, hG, hB, -⟩ := id hC
  cases (show some (Instr.invokestatic a, 3) = some q from hq)
  cases hn
  unfold ee_o43 at h
  split at h
  · rename_i pc' lo wn wd k1 wsp k0 st hh r' heq
    cases heq
    split at h
    · rename_i a0 a1 h0 h1
      obtain ⟨dd, hdd⟩ : ∃ z, z = Nat.sub wd.1 (nat_lit 2147483648) := ⟨_, rfl⟩
      obtain ⟨nn, hnn⟩ : ∃ z, z = Nat.sub wn.1 (nat_lit 2147483648) := ⟨_, rfl⟩
      obtain ⟨ss, hss⟩ : ∃ z, z = Nat.sub wsp.1 (nat_lit 2147483648) := ⟨_, rfl⟩
      rw [← hdd, ← hnn, ← hss] at h
      rw [ee_subL] at hdd hnn hss
      cases hc : (Nat.beq a0.1 (nat_lit 0) && (Nat.beq a1.1 (nat_lit 0) && (ee_sg wn && (ee_sg wd && (ee_sg wsp && (Nat.ble (Nat.add ss nn) a0.2.1
          && (Nat.ble (Nat.add dd nn) a1.2.1 && (Nat.blt (nat_lit 0) d && Nat.ble (ee_len st) (nat_lit 8))))))))) with
      | false => rw [ee_cf hc] at h; cases h
      | true =>
        rw [ee_ct hc] at h
        simp only [ee_f_eq] at h
        rw [Bool.and_eq_true, Bool.and_eq_true, Bool.and_eq_true, Bool.and_eq_true, Bool.and_eq_true, Bool.and_eq_true, Bool.and_eq_true, Bool.and_eq_true, ee_len_eq] at hc
        obtain ⟨c1, c2, c3, c4, c5, c6, c7, c8, c9⟩ := hc
        have l6 := Nat.le_of_ble_eq_true c6
        have l7 := Nat.le_of_ble_eq_true c7
        clear c6 c7
        rw [Nat.add_eq] at l6 l7
        have z1 : a0.1 = 0 := Nat.eq_of_beq_eq_true c1
        have z2 : a1.1 = 0 := Nat.eq_of_beq_eq_true c2
        clear c1 c2
        obtain ⟨t0, n0, e0, o0⟩ := a0
        obtain ⟨t1, n1, e1, o1⟩ := a1
        dsimp only at z1 z2 l6 l7
        dsimp only at h
        subst z1; subst z2
        have hsg : ∀ (w : Nat × Nat), ee_sg w = true → ∀ (x : Int32), ee_in x w → ¬ x < 0 ∧ x.toNatClampNeg = w.1 - 2147483648 := by
          intro w hw x hxw
          unfold ee_sg at hw
          rw [Bool.and_eq_true] at hw
          have u1 : w.1 = w.2 := Nat.eq_of_beq_eq_true hw.1
          have u2 : 2147483648 ≤ w.1 := Nat.le_of_ble_eq_true hw.2
          have u3 := hxw.1
          have u4 := hxw.2
          have u5 : ee_z x = w.1 := by omega
          obtain ⟨g1, g2⟩ := ee_zcl (x := x) (by omega)
          exact ⟨g1, by rw [g2, u5]⟩
        have d1 : 0 < d := Nat.le_of_ble_eq_true c8
        have d2 : st.length ≤ 8 := Nat.le_of_ble_eq_true c9
        split at h
        · rename_i ov hcp
          split at h
          · rename_i h' hput
            cases h
            have hat := ee_cpy_at hcp
            intro ad ws H locs ls vs hp hwd hP hD hS hl hv
            match vs, hv with
            | vn :: vd :: v1 :: vsp :: v0 :: vs, ⟨⟨xn, en, hxn⟩, ⟨xd, ed, hxd⟩, hok1, ⟨xs, es, hxs⟩, hok0, hvt⟩ =>
              subst en; subst ed; subst es
              obtain ⟨p1, p2⟩ := hsg wn c3 xn hxn
              obtain ⟨p3, p4⟩ := hsg wd c4 xd hxd
              obtain ⟨p5, p6⟩ := hsg wsp c5 xs hxs
              rw [← hnn] at p2
              rw [← hdd] at p4
              rw [← hss] at p6
              obtain ⟨ax0, ex0, rfl, hws0, -, hn0⟩ := ee_wd_at hwd h0 hok0
              obtain ⟨ax1, ex1, rfl, hws1, -, hn1⟩ := ee_wd_at hwd h1 hok1
              have hcat := ee_cats hvt
              have hsz : ls.size = ee_ml y := hl.2.choose_spec.1.1
              rcases hn0 with ⟨hz, -⟩ | ⟨-, f0, rfl, hf0⟩ | ⟨hz, -⟩
              · cases hz
              · rcases hn1 with ⟨hz, -⟩ | ⟨-, f1, rfl, hf1⟩ | ⟨hz, -⟩
                · cases hz
                · refine va_copyi (n := xn) (sp := xs) (dp := xd) he hb (by rw [hml, hsz]) hown (hts _ (ee_word (show ee_rsq y a 9 0 = true from hx) (w := .methodLink (ee_on.getD (ee_yc y) "") a arraycopyName) (by decide) (by decide) (by decide) rfl)) (hts _ ee_yw1) (hts _ ee_yw2) (hts _ ee_yw3) hG.1 hP hD hS k0 k1 0 0 hws0 hws1 rfl rfl rfl p5 p3 p1 (by rw [p6, p2]; exact l6) (by rw [p4, p2]; exact l7) (fun i hi => rfl) (by omega) (by rw [hcat]; have h77 : nativeFrameWords "java/lang/System" "arraycopy" 5 ≤ 21 := (by decide); omega) hd (fun H1 locs1 hP1 hD1 hS1 => ?_)
                  refine k ad _ H1 locs1 ls vs hp (ee_wd_put hwd hws1 hput ?_) hP1 hD1 hS1 hl hvt
                  refine Or.inr (Or.inl ⟨Or.inl rfl, _, rfl, fun j hj => ?_⟩)
                  rw [hat j, p6, p4, p2]
                  show ee_ok ad xa (.int (if dd ≤ j ∧ j < dd + nn then f0 (ss + (j - dd)) else f1 j)) (if dd ≤ j ∧ j < dd + nn then _ else _)
                  by_cases hj2 : dd ≤ j ∧ j < dd + nn
                  · rw [if_pos hj2, if_pos hj2]
                    exact hf0 _ (by omega)
                  · rw [if_neg hj2, if_neg hj2]
                    exact hf1 j hj
                · exact absurd hz (by decide)
              · exact absurd hz (by decide)
          · cases h
        · cases h
    · cases h
  · cases h
end ES6
