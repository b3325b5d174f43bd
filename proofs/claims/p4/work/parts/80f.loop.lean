/-! ===== the law's loop ===== -/
def lw_iv9 : List (Int × Int) := [(0, 8000000), (0, 2147483647), (0, 2147483647), (-2147483648, 2147483647), (-2147483648, 2147483647), (-2147483648, 2147483647), (-2147483648, 2147483647), (-2147483648, 2147483647), (-2147483648, 2147483647)]
theorem lw_Tp : ∀ T ∈ lw_Ts, T.1 = 18 ∧ T.2.1 = lw_T0.2.1 ∧ T.2.2.1 = [] ∧ T.2.2.2.1.1.take 9 = lw_iv9 ∧ T.2.2.2.1.2.1 = [] ∧ True ∧ T.2.2.2.1.2.2.2.2 = [] ∧ T.2.2.2.2.1 = 0 ∧ T.2.2.2.2.2 = 0 := by
  intro T hT
  unfold lw_Ts at hT
  simp only [List.mem_cons, List.not_mem_nil, or_false] at hT
  rcases hT with rfl | rfl | rfl | rfl | rfl | rfl | rfl | rfl <;> exact ⟨rfl, rfl, rfl, by decide +kernel, rfl, trivial, rfl, rfl, rfl⟩
/-- a fact that no name stands in -/
def lw_cl (b : Bool) (g : ab_F) : Bool := !Nat.beq g.2.1.1 (nat_lit 6) && ((Nat.beq g.2.1.1 (nat_lit 0) || (Nat.beq g.2.1.1 (nat_lit 2) || decide (g.2.1.2.2.1 = 0))) && (match g.2.2 with
  | .inl f => decide (f.2.1 = 0) || (b && Nat.ble (nat_lit 9) f.1)
  | .inr (.inl _) => true
  | _ => false))
def lw_f6 : ab_F := (6, (6, 0, 0, 0), .inl (0, 0, 0))
theorem lw_Tc : (lw_Ts.all fun T => T.2.2.2.1.2.2.2.1.all fun g => lw_cl true g || decide (g = lw_f6)) = true := by decide +kernel
theorem lw_cl_snd {b : Bool} {rv rv' : List Int} {sv : List (Nat × Nat)} {xa : List Nat} {ws : va_W} {g : ab_F} (hrv : b = true → ∀ i, 9 ≤ i → rv'[i]? = rv[i]?) (h : lw_cl b g = true) (hf : ab_fact rv sv xa ws g) : ab_fact rv' sv xa ws g := by
  obtain ⟨gr, ⟨gt, gf⟩, ga⟩ := g
  obtain ⟨q, e, i, v, f1, f2, f3, f4, f5⟩ := hf
  unfold lw_cl at h
  dsimp only at h f1 f3 f4 f5
  rw [Bool.and_eq_true, Bool.and_eq_true] at h
  obtain ⟨h1, h2, h3⟩ := h
  have hev : ∀ {f : ab_L} {z : Int}, f.2.1 = 0 → ab_ev rv f = some z → ab_ev rv' f = some z := fun h0 hz => by
    rw [ab_ev0 h0] at hz ⊢
    exact hz
  have hg0 : gt ≠ 0 → gt ≠ 2 → gf.2.1 = 0 := fun n0 n2 => by
    rw [Bool.or_eq_true, Bool.or_eq_true] at h2
    rcases h2 with h2 | h2 | h2
    · exact absurd (Nat.eq_of_beq_eq_true h2) n0
    · exact absurd (Nat.eq_of_beq_eq_true h2) n2
    · exact of_decide_eq_true h2
  refine ⟨q, e, i, v, f1, f2, ?_, f4, ?_⟩
  · match gt, h1, hg0, f3 with
    | 0, _, _, f3 => exact f3
    | 1, _, hg0, f3 => exact hev (hg0 (by decide) (by decide)) (show ab_ev rv gf = some i from f3)
    | 2, _, _, f3 => exact f3
    | 3, _, hg0, f3 => exact hev (hg0 (by decide) (by decide)) (show ab_ev rv gf = some i from f3)
    | 4, _, hg0, f3 => exact hev (hg0 (by decide) (by decide)) (show ab_ev rv gf = some i from f3)
    | 5, _, hg0, f3 => exact hev (hg0 (by decide) (by decide)) (show ab_ev rv gf = some i from f3)
    | 6, h1, _, _ => cases h1
    | t + 7, _, hg0, f3 => exact hev (hg0 (by omega) (by omega)) (show ab_ev rv gf = some i from f3)
  · match ga, h3, f5 with
    | .inl f, h3, f5 =>
      obtain ⟨x, hx1, hx2⟩ := f5
      rw [Bool.or_eq_true] at h3
      rcases h3 with h3 | h3
      · exact ⟨x, hx1, hev (of_decide_eq_true h3) hx2⟩
      · rw [Bool.and_eq_true] at h3
        have h9 : 9 ≤ f.1 := Nat.le_of_ble_eq_true h3.2
        refine ⟨x, hx1, ?_⟩
        unfold ab_ev at hx2 ⊢
        rw [hrv h3.1 f.1 h9]
        exact hx2
    | .inr (.inl 0), _, f5 => exact f5
    | .inr (.inl (n + 1)), _, f5 => exact f5
    | .inr (.inr _), h3, _ => cases h3
theorem lw_G_re {b : Bool} {dA : Nat → ClassId} {xa ks : List Nat} {ws : va_W} {rv rv' : List Int} {sv : List (Nat × Nat)} {iv0 iv : List (Int × Int)} {rl : List (Nat × Nat × Int)} {rk : List Nat} {fsn fs : List ab_F} (hG : ab_G ab_cls dA xa ks ws rv sv (iv0, rl, rk, fsn, [])) (hrv : b = true → ∀ i, 9 ≤ i → rv'[i]? = rv[i]?) (hI : ab_I rv' iv) (hfs : ∀ g ∈ fs, (lw_cl b g = true ∧ g ∈ fsn) ∨ ab_fact rv' sv xa ws g) : ab_G ab_cls dA xa ks ws rv' sv (iv, [], rk, fs, []) :=
  ⟨hI, fun r h9 => absurd h9 List.not_mem_nil, hG.2.2.1, fun g hg => (hfs g hg).elim (fun h => lw_cl_snd hrv h.1 (hG.2.2.2.1 g h.2)) id, hG.2.2.2.2.1, fun k κ a e h1 h2 cc hc hp => hG.2.2.2.2.2 k κ a e h1 h2 cc hc (fun pp hpp ho => by
    obtain ⟨d9, hd9, -⟩ := ho
    exact absurd hd9 List.not_mem_nil)⟩
/-- the counters' word, with another bound -/
theorem lw_f6_re {xa : List Nat} {ws : va_W} {rv rv' : List Int} {sv sv' : List (Nat × Nat)} {i6 : Nat} {f : ab_L} {a : ab_A} {n0 n1 c : Int} (hf : ab_fact rv sv xa ws (i6, (6, f), a)) (h0 : rv[0]? = some n0) (hc : f.2.1 = 0) (hle : f.2.2 ≤ c) (h1 : rv'[0]? = some n1) (hn : n1 = n0 + c) (hsv : sv'[6]? = sv[i6]?) : ab_fact rv' sv' xa ws lw_f6 := by
  obtain ⟨q, e, i, v, f1, f2, f3, f4, f5⟩ := hf
  have f3' : (match rv[0]?, ab_ev rv f with
    | some n, some x => some (n + x)
    | _, _ => none) = some i := f3
  rw [h0, ab_ev0 hc] at f3'
  have ei : n0 + f.2.2 = i := Option.some.inj f3'
  obtain ⟨⟨cA, n9, f9, h8, h7⟩, -⟩ := ab_rd_q2 (t := 3) f4
  have h7' : n9 = 7900 ∧ ∀ b, b < 5 → ∀ cc ∈ ab_cn, 0 ≤ (f9 (1580 * b + cc)).toInt ∧ (f9 (1580 * b + cc)).toInt ≤ i := h7
  refine ⟨q, e, n1 + 0, .int 0, hsv.trans f1, f2, ?_, ab_rd_q (t := 3) ⟨cA, n9, f9, h8, h7'.1, fun b hb cc hcc => ?_⟩, ⟨0, rfl, ab_ev0 rfl⟩⟩
  · show (match rv'[0]?, ab_ev rv' (0, 0, 0) with
      | some n, some x => some (n + x)
      | _, _ => none) = some (n1 + 0)
    rw [h1, ab_ev0 rfl]
  · have h9 := h7'.2 b hb cc hcc
    exact ⟨h9.1, by omega⟩
def lw_rv (L : Nat) (X : Nat → Int32) (r : Nat) : List Int := [((1601 * r : Nat) : Int), ((6 * r : Nat) : Int), (L : Int), (X (6 * r)).toInt, (X (6 * r + 1)).toInt, (X (6 * r + 2)).toInt, (X (6 * r + 3)).toInt, (X (6 * r + 4)).toInt, (X (6 * r + 5)).toInt]
theorem lw_rv_at {L : Nat} {X : Nat → Int32} {r : Nat} (hL : L ≤ 384) (hr : r ≤ 64) : ∀ (i : Nat) (q : Int × Int), lw_iv9[i]? = some q → ∃ z, (lw_rv L X r)[i]? = some z ∧ q.1 ≤ z ∧ z ≤ q.2 := by
  intro i q hq
  unfold lw_iv9 at hq
  match i, hq with
  | 0, hq => cases hq; exact ⟨_, rfl, by omega, by omega⟩
  | 1, hq => cases hq; exact ⟨_, rfl, by omega, by omega⟩
  | 2, hq => cases hq; exact ⟨_, rfl, by omega, by omega⟩
  | 3, hq => cases hq; exact ⟨_, rfl, (ab_i32 _).1, (ab_i32 _).2⟩
  | 4, hq => cases hq; exact ⟨_, rfl, (ab_i32 _).1, (ab_i32 _).2⟩
  | 5, hq => cases hq; exact ⟨_, rfl, (ab_i32 _).1, (ab_i32 _).2⟩
  | 6, hq => cases hq; exact ⟨_, rfl, (ab_i32 _).1, (ab_i32 _).2⟩
  | 7, hq => cases hq; exact ⟨_, rfl, (ab_i32 _).1, (ab_i32 _).2⟩
  | 8, hq => cases hq; exact ⟨_, rfl, (ab_i32 _).1, (ab_i32 _).2⟩
  | i + 9, hq => simp at hq
theorem lw_rv_I2 {L : Nat} {X : Nat → Int32} {r : Nat} {tl : List Int} {iv : List (Int × Int)} (hL : L ≤ 384) (hr : r ≤ 64) (h9 : iv.take 9 = lw_iv9) (hlen : iv.length = 9 + tl.length) (ht : ∀ (i : Nat) (q : Int × Int), 9 ≤ i → iv[i]? = some q → ∃ z, tl[i - 9]? = some z ∧ q.1 ≤ z ∧ z ≤ q.2) : ab_I (lw_rv L X r ++ tl) iv := by
  refine ⟨by rw [List.length_append, hlen]; rfl, fun i q hq => ?_⟩
  by_cases hi : i < 9
  · have h8 : (iv.take 9)[i]? = some q := by
      rw [List.getElem?_take, if_pos hi]
      exact hq
    rw [h9] at h8
    obtain ⟨z, z1, z2⟩ := lw_rv_at (X := X) hL hr i q h8
    exact ⟨z, ab_pre (List.prefix_append _ tl) z1, z2⟩
  · obtain ⟨z, z1, z2⟩ := ht i q (by omega) hq
    refine ⟨z, ?_, z2⟩
    rw [List.getElem?_append_right (by show 9 ≤ i; omega)]
    exact z1
theorem lw_I_re {L : Nat} {X : Nat → Int32} {r r' : Nat} {tl : List Int} {iv : List (Int × Int)} (h : ab_I (lw_rv L X r ++ tl) iv) (h9 : iv.take 9 = lw_iv9) (hL : L ≤ 384) (hr : r' ≤ 64) : ab_I (lw_rv L X r' ++ tl) iv := by
  refine lw_rv_I2 hL hr h9 ?_ (fun i q hi hq => ?_)
  · have h1 := h.1
    rw [List.length_append] at h1
    have e : (lw_rv L X r).length = 9 := rfl
    omega
  · obtain ⟨z, z1, z2⟩ := h.2 i q hq
    refine ⟨z, ?_, z2⟩
    rw [List.getElem?_append_right (by show 9 ≤ i; exact hi)] at z1
    exact z1
theorem lw_tail {L : Nat} {X : Nat → Int32} {r r' : Nat} {tl : List Int} : ∀ i, 9 ≤ i → (lw_rv L X r' ++ tl)[i]? = (lw_rv L X r ++ tl)[i]? := fun i hi => by
  rw [List.getElem?_append_right (by show 9 ≤ i; exact hi), List.getElem?_append_right (by show 9 ≤ i; exact hi)]
  rfl
theorem lw_S9 {rv : List Int} {sv : List (Nat × Nat)} {xa : List Nat} {ws : va_W} {g1 : Nat} {g2 : ab_Key} (h9 : rv[9]? = some 0) (hf : ab_fact rv sv xa ws (g1, g2, .inl (0, 0, 0))) : ab_fact rv sv xa ws (g1, g2, .inl (9, 1, 0)) := by
  obtain ⟨q, e, i, v, f1, f2, f3, f4, y, y1, y2⟩ := hf
  refine ⟨q, e, i, v, f1, f2, f3, f4, y, y1, ?_⟩
  rw [ab_ev0 rfl] at y2
  show (if (1 : Int) = 0 then some (0 : Int) else (rv[9]?).map (fun z => 1 * z + 0)) = some y.toInt
  rw [if_neg (by decide), h9]
  exact y2
theorem lw_pre9 {α : Type} {l l' : List α} (h : l <+: l') (hn : l'.length = l.length) : l' = l := (h.eq_of_length hn.symm).symm
theorem lw_tgk : ∀ k, k < 32 → ee_tg (ee_ts 0) (k + 2147483648) ∈ lw_tg := by decide +kernel
theorem lw_lo0 : lw_T0.2.1 = [.inr (.inr 2), .inr (.inl 1), .inr (.inl 11), .inl (1, 1, 0)] := by decide +kernel
theorem lw_fo13 (x y : Int32) : ee_fo 13 x y = x &&& y := rfl
theorem lw_fo11 (x y : Int32) : ee_fo 11 x y = x - y := rfl
theorem lw_ch4 {x y : Int32} (h : y < x) : ee_ch 4 x y := h
theorem lw_hz (xx : Int32) : ∃ t, t ∈ lw_tg ∧ ee_tg (ee_ts 0) (ee_z (ee_fo 13 xx (ee_x 2147483679))) = t := by
  rw [lw_fo13]
  have hand := ab_and_le xx (ee_x 2147483679) (by decide +kernel)
  have e31 : (ee_x 2147483679).toInt = 31 := by decide +kernel
  have hz := ee_zi (xx &&& ee_x 2147483679)
  obtain ⟨k, hk, hkz⟩ : ∃ k, k < 32 ∧ ee_z (xx &&& ee_x 2147483679) = k + 2147483648 := ⟨(xx &&& ee_x 2147483679).toInt.toNat, by omega, by omega⟩
  exact ⟨_, lw_tgk k hk, by rw [hkz]⟩
section LL
variable {p : Program} {l : Launch} {e : Env} {s : State} {m : MethodId} {below : List Frame} {meth : Method} {c : Code} {D : va_G} {dA : Nat → ClassId} {xa : List Nat} {xt : ee_X} {b : Nat}
theorem lw_room : (11 ≤ room_1.frames ∧ 40 * 11 ≤ room_1.locals) ∧ room_1.cells = 600000 ∧ room_1.slots = 7302250 := by decide +kernel
theorem lw_head {L : Nat} {X : Nat → Int32} {r : Nat} (hC : ee_C p s m #[Value.ref b] meth c D dA xa xt s.heap.size 0) (hL : L ≤ 384) {sc : List (Nat × Nat)} (hx0 : xt[0]? = some (some sc)) (hscl : sc.length = L) {T : ab_S} (hT : T ∈ lw_Ts) {sv0 : ab_B} {c0 s0 : Nat} (hc0 : c0 ≤ 500000) (hs0 : s0 ≤ 900000) (hr : r ≤ 64)
    (body : 6 * r + 6 ≤ L → lw_sc xt (lw_rv L X r) ∧ ∀ t ∈ lw_tg, ab_WS ab_cls p l e room_1 s m #[Value.ref b] below meth c (lw_Z below #[Value.ref b] s) D dA xa s.heap.size (lw_rv L X r) sv0 0 (lw_sh (c0 + 33 * r, s0 + 681 * r) (lw_at t T))) :
    ab_WS ab_cls p l e room_1 s m #[Value.ref b] below meth c (lw_Z below #[Value.ref b] s) D dA xa s.heap.size (lw_rv L X r) sv0 0 (lw_sh (c0 + 33 * r, s0 + 681 * r) T) := by
  have h04 : ee_ml 0 = 4 := by decide +kernel
  obtain ⟨hx, hb, hml, hown, hts, hGG, hBB, hlk, hrt, hnm, -⟩ := id hC
  obtain ⟨ax, cell, z1, z2, z3, z4, z5, z6, z66, z7⟩ := hGG.2.2.2.2.2 0 sc hx0
  obtain ⟨p1, p2, p3, p4, p5, p6, p7, p8, p9⟩ := lw_Tp T hT
  intro ks ws rv sv H locs ls vs hr0 hs9 hG hP hD hS hl hv
  obtain ⟨tl, erv⟩ := hr0
  subst erv
  have hl' : ab_lo (lw_rv L X r ++ tl) sv xa ls 4 T.2.1 := by rw [← h04]; exact hl
  rw [p2, lw_lo0] at hl'
  have hv' : ab_a2 (ab_ok (lw_rv L X r ++ tl) sv xa) vs T.2.2.1 := hv
  rw [p3] at hv'
  have hph := ab_ph_le (ke := sv0.2.2.2.1) hG.2.2.2.2.1 hD
  match vs, hv' with
  | [], _ =>
    obtain ⟨v3, b3, x, rfl, hx3⟩ := ab_lo_get hl' (i := 3) (a := .inl (1, 1, 0)) rfl (fun h9 => by cases h9)
    obtain ⟨v0, b0, a0, ha0, rfl⟩ := ab_lo_get hl' (i := 0) (a := .inr (.inr 2)) rfl (fun h9 => by cases h9)
    have ha0' : xa[0]? = some a0 := ha0
    rw [z1] at ha0'
    cases ha0'
    have ex : x.toInt = ((6 * r : Nat) : Int) := by
      rw [ab_evc (Or.inr (show (lw_rv L X r ++ tl)[1]? = some ((6 * r : Nat) : Int) from rfl))] at hx3
      have h9 := Option.some.inj hx3
      omega
    have ex2 : x.toInt.toNat = 6 * r := by omega
    have hcell : H[ax]? = some cell := by
      rw [hS.2.1 ax (by omega) (by show ¬ s.heap.size ≤ ax; omega)]
      exact z3
    have ey : (Int32.ofNat sc.length - ee_x 2147483654).toInt = (L : Int) - 6 := by
      have e1 : (Int32.ofNat sc.length).toInt = (L : Int) := by
        rw [hscl]
        exact nI_toInt (by omega)
      have e2 : (ee_x 2147483654).toInt = 6 := by decide +kernel
      rw [ab_tsub (by omega) (by omega), e1, e2]
    show W p l e room_1 s m #[Value.ref b] below meth c H locs (T.2.2.2.2.1 + (c0 + 33 * r) + (ab_ph sv0.2.2.2.1 ks ws / 1024 - sv0.2.2.2.2.2 / 1024)) (T.2.2.2.2.2 + (s0 + 681 * r) + (ab_ph sv0.2.2.2.1 ks ws - sv0.2.2.2.2.2)) (lw_Z below #[Value.ref b] s) (F0 m T.1 ls [])
    rw [p1]
    refine sm_1 hC (show ee_sc 0 18 (1, 3, 1, 1) = true by decide +kernel) b3 ?_
    refine sm_2 hC (show ee_sc 0 19 (2, 0, 1, 1) = true by decide +kernel) (Or.inr ⟨_, rfl⟩) b0 ?_
    refine W.alen (n := Int32.ofNat sc.length) hx hb hcell z4 (by rw [z66]) rfl rfl (show decode (ee_cb 0) 20 = .ok (.arraylength, 1) by decide +kernel) ?_
    refine sm_5 hC (show ee_sc 0 21 (5, 2147483654, 1, 2) = true by decide +kernel) (fun _ => ?_)
    refine sm_10 (by decide) (by decide) hC (show ee_sc 0 23 (11, 0, 0, 1) = true by decide +kernel) (fun z => absurd z (by decide)) ?_
    rw [lw_fo11]
    refine sm_44 hC (show ee_sc 0 24 (44, 4, 1046, 3) = true by decide +kernel) (fun _ => ?_) (fun hc => ?_)
    · refine sm_5 hC (show ee_sc 0 1046 (5, 2147483649, 0, 1) = true by decide +kernel) (fun _ => ?_)
      rw [show ee_x 2147483649 = 1 by decide +kernel]
      refine va_forget (fun q hq => hS.2.2 q hq) ?_
      refine W.widen (k := 600000) (n := 7302250) ?_ ?_ (lw_ret hx hb hrt hlk (show decode (ee_cb 0) 1047 = .ok (.ireturn, 1) by decide +kernel))
      · rw [p8]
        omega
      · rw [p9]
        omega
    · have hb6 : 6 * r + 6 ≤ L := Classical.byContradiction fun h9 => hc (lw_ch4 (by
        rw [Int32.lt_iff_toInt_lt, ey, ex]
        omega))
      obtain ⟨hsc, hcase⟩ := body hb6
      obtain ⟨q9, hq9⟩ : ∃ q9, sc[6 * r]? = some q9 := ⟨_, List.getElem?_eq_getElem (by omega : 6 * r < sc.length)⟩
      obtain ⟨xx, y1, -⟩ := z7 _ _ hq9
      obtain ⟨v1, v2⟩ := ab_vin (x := x) (nn := sc.length) (by omega) (by omega)
      refine sm_2 hC (show ee_sc 0 27 (2, 0, 1, 1) = true by decide +kernel) (Or.inr ⟨_, rfl⟩) b0 ?_
      refine sm_1 hC (show ee_sc 0 28 (1, 3, 1, 1) = true by decide +kernel) b3 ?_
      refine W.iald (v := .int xx) hx hb hcell z4 z5 (fun z => z.elim (fun z => v1 (Or.inl z)) (fun z => v1 (Or.inr (Nat.le_trans z6 z)))) (by rw [v2, ex2]; exact y1) rfl rfl (show decode (ee_cb 0) 29 = .ok (.iaload, 1) by decide +kernel) ?_
      refine sm_5 hC (show ee_sc 0 30 (5, 2147483679, 1, 2) = true by decide +kernel) (fun _ => ?_)
      refine sm_10 (by decide) (by decide) hC (show ee_sc 0 32 (13, 0, 0, 1) = true by decide +kernel) (fun z => absurd z (by decide)) ?_
      refine sm_49 hC (show ee_sc 0 33 (49, 0, 135, 135) = true by decide +kernel) ?_
      obtain ⟨tk, htk, etk⟩ := lw_hz xx
      rw [etk]
      exact hcase tk htk ks ws _ sv H locs ls [] (List.prefix_append _ _) hs9 hG hP hD hS hl (by
        show ab_a2 _ [] T.2.2.1
        rw [p3]
        trivial)
theorem lw_loop (hgo : ∀ T ∈ lw_Ts, ∀ t ∈ lw_tg, lw_ok t T = true) (hxt : xt[1]? = some (some ab_rnd)) (hC : ee_C p s m #[Value.ref b] meth c D dA xa xt s.heap.size 0) {L : Nat} {X : Nat → Int32} (hL : L ≤ 384) {sc : List (Nat × Nat)} (hx0 : xt[0]? = some (some sc)) (hscl : sc.length = L) (hsc0 : ∀ j, j < L → sc[j]? = some (ee_z (X j), ee_z (X j))) {sv0 : ab_B} (hs8 : sv0.1.length = 9) (hmask : sv0.2.2.1 = ab_wm lw_mk) (hXX : sv0.2.2.2.2.1 = 0) {c0 s0 : Nat} (hc0 : c0 ≤ 500000) (hs0 : s0 ≤ 900000) :
    ∀ (n r : Nat), r + n = 64 → ∀ T ∈ lw_Ts, ab_WS ab_cls p l e room_1 s m #[Value.ref b] below meth c (lw_Z below #[Value.ref b] s) D dA xa s.heap.size (lw_rv L X r) sv0 0 (lw_sh (c0 + 33 * r, s0 + 681 * r) T) := by
  obtain ⟨hR, hrc, hrs⟩ := lw_room
  have h04 : ee_ml 0 = 4 := by decide +kernel
  have hKs : ∀ K ∈ lw_Ks, ab_CT ab_cls l D dA xa xt s.heap.size K ∧ K.1.2 < 11 := fun K hK => ⟨lw_Kc hxt K hK, Nat.le_of_ble_eq_true (List.all_eq_true.mp lw_Kd K hK)⟩
  obtain ⟨hx, hb, hml, hown, hts, hGG, hBB, hlk, hrt, hnm, -⟩ := id hC
  obtain ⟨ax, cell, z1, z2, z3, z4, z5, z6, z66, z7⟩ := hGG.2.2.2.2.2 0 sc hx0
  intro n
  induction n with
  | zero =>
    intro r hrn T hT
    exact lw_head hC hL hx0 hscl hT hc0 hs0 (by omega) (fun h9 => absurd h9 (by omega))
  | succ n ih =>
    intro r hrn T hT
    refine lw_head hC hL hx0 hscl hT hc0 hs0 (by omega) (fun hbody => ?_)
    have hsc : lw_sc xt (lw_rv L X r) := ⟨sc, 6 * r, fun k => X (6 * r + k), hx0, by omega, by omega, rfl, fun k hk => ⟨hsc0 (6 * r + k) (by omega), by
      match k, hk with
      | 0, _ => rfl
      | 1, _ => rfl
      | 2, _ => rfl
      | 3, _ => rfl
      | 4, _ => rfl
      | 5, _ => rfl
      | k + 6, hk => omega⟩⟩
    refine ⟨hsc, fun t ht => ?_⟩
    refine lw_run_snd (d := 11) (cC := 130) (cS := 2100) (mask := lw_mk) (X := 0) (Ks := lw_Ks) hsc hR (by decide) (by rw [hrc, hrs]; dsimp only; omega) hmask hXX hC hKs (fun S hS18 hfin => ?_) (hgo T hT t ht) _ List.mem_cons_self
    -- the end of a round
    intro ks ws rv sv H locs ls vs hr0 hs9 hG hP hD hS hl hv
    unfold lw_fin at hfin
    rw [Bool.and_eq_true] at hfin
    obtain ⟨hf6, hfT⟩ := hfin
    obtain ⟨T', hT', hle⟩ := List.any_eq_true.mp hfT
    obtain ⟨p1, p2, p3, p4, p5, p6, p7, p8, p9⟩ := lw_Tp T' hT'
    have hle' : ab_le 9 9 _ _ S (lw_n6 T') = true := hle
    obtain ⟨rv', sv', hSG, g1, g2, g3, g4, g5, g6, g7, g8⟩ := ab_le_fit hle' hG hl hv
    obtain ⟨tl, e1⟩ := g4 (lw_rv L X r) rfl hr0
    have e2 : sv0.1 <+: sv' := g5 _ hs8 hs9.1
    subst e1
    have g2' : ab_lo (lw_rv L X r ++ tl) sv' xa ls 4 T'.2.1 := by rw [← h04]; exact g2
    rw [p2, lw_lo0] at g2'
    have g3' : ab_a2 (ab_ok (lw_rv L X r ++ tl) sv' xa) vs T'.2.2.1 := g3
    rw [p3] at g3'
    match vs, g3' with
    | [], _ =>
      obtain ⟨lo1, lv, lo2, lo3⟩ := g2'
      obtain ⟨v3, m3, x, rfl, hx3⟩ : ∃ v, (3, v) ∈ lv ∧ ab_ok (lw_rv L X r ++ tl) sv' xa v (.inl (1, 1, 0)) := (lo3 3 (.inl (1, 1, 0)) rfl).resolve_left (fun h9 => by cases h9)
      have ex : x.toInt = ((6 * r : Nat) : Int) := by
        rw [ab_evc (Or.inr (show (lw_rv L X r ++ tl)[1]? = some ((6 * r : Nat) : Int) from rfl))] at hx3
        have h9 := Option.some.inj hx3
        omega
      have e6 : (Int32.ofInt 6).toInt = 6 := by decide +kernel
      have ex6 : (x + Int32.ofInt 6).toInt = ((6 * (r + 1) : Nat) : Int) := by
        rw [ab_tadd (by omega) (by omega), e6, ex]
        omega
      obtain ⟨k3, hk3⟩ := List.getElem?_of_mem m3
      have hS1 : S.1 = 1040 := hS18
      show W p l e room_1 s m #[Value.ref b] below meth c H locs _ _ _ (F0 m S.1 ls [])
      rw [hS1]
      refine lv_iinc (v := x + Int32.ofInt 6) hx hb (show decode (ee_cb 0) 1040 = .ok (.iinc 3 6, 3) by decide +kernel) lo2 hk3 rfl (by decide) rfl (fun ls' hl' => ?_)
      refine lv_goto (tgt := 18) hx hb (show decode (ee_cb 0) 1043 = .ok (.goto (-1025), 3) by decide +kernel) (by decide) ?_
      -- the counters
      have hG6 : ab_fact (lw_rv L X (r + 1) ++ tl) sv' xa ws lw_f6 := by
        split at hf6
        · rename_i f hf
          rw [Bool.and_eq_true, decide_eq_true_eq, decide_eq_true_eq] at hf6
          obtain ⟨a9, m9⟩ := ab_fsr_in hf
          have h8 : sv'[6]? = sv[6]? := by
            have hlt : 6 < sv0.1.length := by omega
            rw [ab_pre hs9.1 (List.getElem?_eq_getElem hlt), ab_pre e2 (List.getElem?_eq_getElem hlt)]
          exact lw_f6_re (c := 1601) (n0 := ((1601 * r : Nat) : Int)) (n1 := ((1601 * (r + 1) : Nat) : Int)) (hG.2.2.2.1 _ m9) (ab_pre hr0 rfl) hf6.1 hf6.2 rfl (by omega) h8
        · cases hf6
      have hGn : ab_G ab_cls dA xa ks ws (lw_rv L X (r + 1) ++ tl) sv' T'.2.2.2.1 := by
        have h9 : ab_G ab_cls dA xa ks ws (lw_rv L X (r + 1) ++ tl) sv' (T'.2.2.2.1.1, [], T'.2.2.2.1.2.2.1, T'.2.2.2.1.2.2.2.1, []) := by
          have g1' : ab_G ab_cls dA xa ks ws (lw_rv L X r ++ tl) sv' (T'.2.2.2.1.1, T'.2.2.2.1.2.1, T'.2.2.2.1.2.2.1, T'.2.2.2.1.2.2.2.1.filter (fun g => !Nat.beq g.2.1.1 (nat_lit 6)), T'.2.2.2.1.2.2.2.2) := g1
          rw [p7] at g1'
          refine lw_G_re (b := true) g1' (fun _ => lw_tail) (lw_I_re g1.1 p4 hL (by omega)) (fun g hg => ?_)
          have h8 := List.all_eq_true.mp (List.all_eq_true.mp lw_Tc T' hT') g hg
          rw [Bool.or_eq_true] at h8
          rcases h8 with h8 | h8
          · refine Or.inl ⟨h8, List.mem_filter.mpr ⟨hg, ?_⟩⟩
            unfold lw_cl at h8
            rw [Bool.and_eq_true] at h8
            exact h8.1
          · rw [of_decide_eq_true h8]
            exact Or.inr hG6
        have e9 : T'.2.2.2.1 = (T'.2.2.2.1.1, ([] : List (Nat × Nat × Int)), T'.2.2.2.1.2.2.1, T'.2.2.2.1.2.2.2.1, ([] : List (Nat × ab_Key))) := Prod.ext rfl (Prod.ext p5 (Prod.ext rfl (Prod.ext rfl p7)))
        rw [e9]
        exact h9
      have hlo' : ab_lo (lw_rv L X (r + 1) ++ tl) sv' xa ls' 4 T'.2.1 := by
        rw [p2, lw_lo0]
        refine ⟨rfl, _, hl', fun i a ha => ?_⟩
        have old : ∀ j (v : Value) , j < 3 → (j, v) ∈ lv → (v.category = 1) → (j, v) ∈ (3, Value.int (x + Int32.ofInt 6)) :: lv.filter (fun q => !(q.1 == 3) && !(q.1 + 1 == 3 && q.2.category == 2)) := fun j v hj hm hcat => by
          refine List.mem_cons_of_mem _ (List.mem_filter.mpr ⟨hm, ?_⟩)
          have h3 : (j == 3) = false := by
            rw [beq_eq_false_iff_ne]
            omega
          dsimp only
          rw [h3, hcat]
          cases (j + 1 == 3) <;> rfl
        match i, ha with
        | 0, ha =>
          cases ha
          obtain ⟨v, m0, o0⟩ := (lo3 0 (.inr (.inr 2)) rfl).resolve_left (fun h9 => by cases h9)
          obtain ⟨a0, x0, rfl⟩ := o0
          exact Or.inr ⟨_, old 0 _ (by decide) m0 rfl, a0, x0, rfl⟩
        | 1, ha =>
          cases ha
          obtain ⟨v, m0, o0⟩ := (lo3 1 (.inr (.inl 1)) rfl).resolve_left (fun h9 => by cases h9)
          obtain ⟨q0, x0, rfl⟩ := ab_nnul (z := 0) rfl o0
          exact Or.inr ⟨_, old 1 _ (by decide) m0 rfl, Or.inl ⟨q0, x0, rfl⟩⟩
        | 2, ha =>
          cases ha
          obtain ⟨v, m0, o0⟩ := (lo3 2 (.inr (.inl 11)) rfl).resolve_left (fun h9 => by cases h9)
          obtain ⟨q0, x0, rfl⟩ := ab_nnul (z := 10) rfl o0
          exact Or.inr ⟨_, old 2 _ (by decide) m0 rfl, Or.inl ⟨q0, x0, rfl⟩⟩
        | 3, ha =>
          cases ha
          refine Or.inr ⟨_, List.mem_cons_self, x + Int32.ofInt 6, rfl, ?_⟩
          rw [ab_evc (Or.inr (show (lw_rv L X (r + 1) ++ tl)[1]? = some ((6 * (r + 1) : Nat) : Int) from rfl)), ex6]
          exact congrArg some (by omega)
        | i + 4, ha => simp at ha
      have k9 := ih (r + 1) (by omega) T' hT' ks ws (lw_rv L X (r + 1) ++ tl) sv' H locs ls' [] (List.prefix_append _ _) ⟨e2, hs9.2⟩ hGn hP hD hS (by rw [h04]; exact hlo') (by
        show ab_a2 _ [] T'.2.2.1
        rw [p3]
        trivial)
      have k8 : W p l e room_1 s m #[Value.ref b] below meth c H locs (T'.2.2.2.2.1 + (c0 + 33 * (r + 1)) + (ab_ph sv0.2.2.2.1 ks ws / 1024 - sv0.2.2.2.2.2 / 1024)) (T'.2.2.2.2.2 + (s0 + 681 * (r + 1)) + (ab_ph sv0.2.2.2.1 ks ws - sv0.2.2.2.2.2)) (lw_Z below #[Value.ref b] s) (F0 m T'.1 ls' []) := k9
      rw [p1, p8, p9] at k8
      have g7' : S.2.2.2.2.1 ≤ 33 := g7
      have g8' : S.2.2.2.2.2 ≤ 681 := g8
      refine W.widen ?_ ?_ k8
      · show S.2.2.2.2.1 + (c0 + 33 * r) + _ ≤ _
        omega
      · show S.2.2.2.2.2 + (s0 + 681 * r) + _ ≤ _
        omega
end LL
