/-! ===== the reference's starts(), by its loops ===== -/
section EST
variable {p : Program} {l : Launch} {e : Env} {R : Room} {s : State} {m : MethodId} {args : Array Value} {below : List Frame} {meth : Method} {c : Code} {Q : State → Prop} {D : va_G} {dA : Nat → ClassId} {xa : List Nat} {xt : ee_X} {B : Nat}
theorem ee_isin_ct {d : Nat} {ws0 : va_W} {a lo hi : Nat} (ha : a < 2147483648) (hlo : lo < 2147483648) (hhi : hi < 2147483648) : ct l D dA xa xt B d 72 0 0 (fun vs ws => vs = [.int (nI a), .int (nI lo), .int (nI hi)] ∧ ws = ws0) (fun v ws k n => v = some (.int (if lo ≤ a ∧ a ≤ hi then 1 else 0)) ∧ ws = ws0 ∧ k = 0 ∧ n = 0) := by
  refine ct_met (by decide +kernel) (by decide +kernel) ?_ ?_
  · rintro vs ws ⟨rfl, rfl⟩
    exact (by decide : (3 : Nat) ≤ 3)
  · rintro p e s m vs below meth c ws ls hC ⟨rfl, rfl⟩ hP hD hS hlv
    obtain ⟨hx, hb, -⟩ := id hC
    have hl : lv_has ls 3 [(0, .int (nI a)), (1, .int (nI lo)), (2, .int (nI hi))] := hlv
    refine lv_iload_n hx hb (show decode (ee_cb 72) 0 = .ok (.iload_n 0, 1) by decide +kernel) rfl (lv_at hl 0 rfl) ?_
    refine lv_iload_n hx hb (show decode (ee_cb 72) 1 = .ok (.iload_n 1, 1) by decide +kernel) rfl (lv_at hl 1 rfl) ?_
    refine lv_icmp_lt (tgt := 14) hx hb (show decode (ee_cb 72) 2 = .ok (.if_icmp .lt 12, 3) by decide +kernel) (by decide) (fun h1 => ?_) (fun h1 => ?_)
    · rw [Int32.lt_iff_toInt_lt, nI_toInt (by omega), nI_toInt (by omega)] at h1
      refine lv_iconst (v := 0) hx hb (show decode (ee_cb 72) 14 = .ok (.iconst 0, 1) by decide +kernel) (by decide +kernel) ?_
      refine sm_51 (y := 72) (pc := 15) (a := 0) (b := 0) (n := 1) (xv := 0) (by decide +kernel) hC (by decide +kernel) (Or.inr ⟨by decide +kernel, Or.inl rfl⟩) hP hD hS ?_
      exact ⟨by rw [if_neg (by omega)], rfl, rfl, rfl⟩
    · rw [Int32.lt_iff_toInt_lt, nI_toInt (by omega), nI_toInt (by omega)] at h1
      refine lv_iload_n hx hb (show decode (ee_cb 72) 5 = .ok (.iload_n 0, 1) by decide +kernel) rfl (lv_at hl 0 rfl) ?_
      refine lv_iload_n hx hb (show decode (ee_cb 72) 6 = .ok (.iload_n 2, 1) by decide +kernel) rfl (lv_at hl 2 rfl) ?_
      refine lv_icmp_gt (tgt := 14) hx hb (show decode (ee_cb 72) 7 = .ok (.if_icmp .gt 7, 3) by decide +kernel) (by decide) (fun h2 => ?_) (fun h2 => ?_)
      · rw [Int32.lt_iff_toInt_lt, nI_toInt (by omega), nI_toInt (by omega)] at h2
        refine lv_iconst (v := 0) hx hb (show decode (ee_cb 72) 14 = .ok (.iconst 0, 1) by decide +kernel) (by decide +kernel) ?_
        refine sm_51 (y := 72) (pc := 15) (a := 0) (b := 0) (n := 1) (xv := 0) (by decide +kernel) hC (by decide +kernel) (Or.inr ⟨by decide +kernel, Or.inl rfl⟩) hP hD hS ?_
        exact ⟨by rw [if_neg (by omega)], rfl, rfl, rfl⟩
      · rw [Int32.lt_iff_toInt_lt, nI_toInt (by omega), nI_toInt (by omega)] at h2
        refine lv_iconst (v := 1) hx hb (show decode (ee_cb 72) 10 = .ok (.iconst 1, 1) by decide +kernel) (by decide +kernel) ?_
        refine lv_goto (tgt := 15) hx hb (show decode (ee_cb 72) 11 = .ok (.goto 4, 3) by decide +kernel) (by decide) ?_
        refine sm_51 (y := 72) (pc := 15) (a := 0) (b := 0) (n := 1) (xv := 1) (by decide +kernel) hC (by decide +kernel) (Or.inr ⟨by decide +kernel, Or.inr rfl⟩) hP hD hS ?_
        exact ⟨by rw [if_pos (by omega)], rfl, rfl, rfl⟩
theorem ee_thr_ct {d : Nat} {ws0 : va_W} {a : Nat} : ct l D dA xa xt B d 85 0 0 (fun vs ws => vs = [.int (nI a)] ∧ ws = ws0) (fun v ws k n => v = some (.int (nI (470 + 200 * a))) ∧ ws = ws0 ∧ k = 0 ∧ n = 0) := by
  refine ct_met (by decide +kernel) (by decide +kernel) ?_ ?_
  · rintro vs ws ⟨rfl, rfl⟩
    exact (by decide : (1 : Nat) ≤ 1)
  · rintro p e s m vs below meth c ws ls hC ⟨rfl, rfl⟩ hP hD hS hlv
    obtain ⟨hx, hb, -⟩ := id hC
    have hl : lv_has ls 1 [(0, .int (nI a))] := hlv
    refine lv_sipush (v := nI 470) hx hb (show decode (ee_cb 85) 0 = .ok (.sipush 470, 3) by decide +kernel) (by decide +kernel) ?_
    refine lv_sipush (v := nI 200) hx hb (show decode (ee_cb 85) 3 = .ok (.sipush 200, 3) by decide +kernel) (by decide +kernel) ?_
    refine lv_iload_n hx hb (show decode (ee_cb 85) 6 = .ok (.iload_n 0, 1) by decide +kernel) rfl (lv_at hl 0 rfl) ?_
    refine lv_imul hx hb (show decode (ee_cb 85) 7 = .ok (.imul, 1) by decide +kernel) ?_
    refine lv_iadd hx hb (show decode (ee_cb 85) 8 = .ok (.iadd, 1) by decide +kernel) ?_
    rw [pk_mul, nI_add]
    refine sm_51 (y := 85) (pc := 9) (a := 0) (b := 0) (n := 1) (by decide +kernel) hC (by decide +kernel) (Or.inl (by decide +kernel)) hP hD hS ?_
    exact ⟨rfl, rfl, rfl, rfl⟩
theorem ee_sta_row (hC : ee_C p s m args meth c D dA xa xt B 68) {ws : va_W} {k ax aa pc : Nat} {vs9 : List Value} {H : Heap} {locs : List Loc} {ls : Array Slot} {rest : List Value} (hk : ws[k]? = some (ax, .inr (11, vs9))) (hv0 : vs9[0]? = some (.ref aa)) (hP : va_P D ee_cl ws H) (hl : ls[0]? = some (.val (.ref ax))) (d1 : decode (ee_cb 68) pc = .ok (.aload_n 0, 1)) (d2 : decode (ee_cb 68) (pc + 1) = .ok (.getfield 7, 3))
    (kk : W p l e R s m args below meth c H locs 0 0 Q (F0 m (pc + 4) ls (.ref aa :: rest))) : W p l e R s m args below meth c H locs 0 0 Q (F0 m pc ls rest) := by
  obtain ⟨hx, hb, hml, hown, hts, hG, hB, -⟩ := hC
  obtain ⟨C, T, N, fs0, ecx, ecl, -, -, hin, hty, hnm, hdecl, -, -, -⟩ := ee_cls (ci := 11) (by decide)
  have hN : 0 < N := by
    have : (ee_cx 11).2.2 = 22 := by decide +kernel
    rw [ecx] at this
    show 0 < N
    have h9 : N = 22 := this
    omega
  have hlink : (Cond.fieldLink (ee_on.getD (ee_yc 68) "") 7 C (T 0).2.1 (T 0).2.2.1).before args s = true := by
    refine hts _ (ee_word (y := 68) (a := 7) (kind := 1) (b := 704) (by decide +kernel) (by decide) (by decide) (by decide) ?_)
    show some _ = some _
    rw [show (704 / 64 : Nat) = 11 from rfl, ecx]
  refine lv_aload_n hx hb d1 rfl hl ?_
  exact va_get (ci := 11) (v := .ref aa) hx hb hts hin hown hG.1 hP k hk ecl 0 hN hlink (fun x h9 => by rw [hdecl _ hN] at h9; exact h9) hv0 d2 kk
theorem ee_sta_thr {d : Nat} (hR : d ≤ R.frames ∧ 40 * d ≤ R.locals) (hd0 : 0 < d) (hC : ee_C p s m args meth c D dA xa xt B 68) {ws : va_W} {pc t : Nat} {H : Heap} {locs : List Loc} {ls : Array Slot} {aa : Nat} (hP : va_P D ee_cl ws H) (hD : va_D (fun q => B ≤ q) ws) (hS : va_S (fun q => B ≤ q) s.heap H locs) (hsz : ls.size = ee_ml 68) (hl : ls[5]? = some (.val (.int (nI t)))) (d1 : decode (ee_cb 68) pc = .ok (.iload 5, 2)) (hs : ee_sc 68 (pc + 2) (41, 43, 85, 3) = true)
    (kk : ∀ (H1 : Heap) (locs1 : List Loc), va_P D ee_cl ws H1 → va_D (fun q => B ≤ q) ws → va_S (fun q => B ≤ q) s.heap H1 locs1 → W p l e R s m args below meth c H1 locs1 0 0 Q (F0 m (pc + 5) ls (.int (nI (470 + 200 * t)) :: .ref aa :: []))) : W p l e R s m args below meth c H locs 0 0 Q (F0 m pc ls (.ref aa :: [])) := by
  obtain ⟨hx, hb, -⟩ := id hC
  refine lv_iload hx hb d1 hl ?_
  refine sm_41 (vAs := [.int (nI t)]) (vr := [.ref aa]) hR hd0 hC hs (by decide) (ee_thr_ct (a := t) (ws0 := ws)) hP hD hS hsz ⟨rfl, rfl⟩ (show (1 : Nat) = ee_np 85 by decide +kernel) (by show (1 : Nat) + 0 ≤ 8; omega) ⟨Nat.zero_le _, Nat.zero_le _⟩ ?_
  rintro v ws1 H1 locs1 k n ⟨rfl, rfl, rfl, rfl⟩ hP1 hD1 hS1
  exact kk H1 locs1 hP1 hD1 hS1
theorem ee_sta_A {d : Nat} (hR : d ≤ R.frames ∧ 40 * d ≤ R.locals) (hd0 : 0 < d) (hC : ee_C p s m args meth c D dA xa xt B 68) {ws : va_W} {k ka ax aa : Nat} {vs9 : List Value} {g : Nat → Int32} {v1 v2 v3 v4 : Int32} (hk : ws[k]? = some (ax, .inr (11, vs9))) (hv0 : vs9[0]? = some (.ref aa)) (hka : ws[ka]? = some (aa, .inl (dA 0, 7900, .inl g))) (fin : ∀ (gi : Nat → Int32) (H : Heap) (locs : List Loc) (ls : Array Slot), (∀ j, gi j = if j < 1270 ∧ ¬((8 ≤ j ∧ j ≤ 10) ∨ (20 ≤ j ∧ j ≤ 419)) then 0 else g j) → va_P D ee_cl (ws.set ka (aa, .inl (dA 0, 7900, .inl gi))) H → va_D (fun q => B ≤ q) (ws.set ka (aa, .inl (dA 0, 7900, .inl gi))) → va_S (fun q => B ≤ q) s.heap H locs → lv_has ls 7 [(5, .int (nI 1270)), (0, .ref ax), (1, .int v1), (2, .int v2), (3, .int v3), (4, .int v4)] → W p l e R s m args below meth c H locs 0 0 Q (F0 m 50 ls [])) :
    ∀ (n i : Nat), i + n = 1270 → ∀ (gi : Nat → Int32) (H : Heap) (locs : List Loc) (ls : Array Slot), (∀ j, gi j = if j < i ∧ ¬((8 ≤ j ∧ j ≤ 10) ∨ (20 ≤ j ∧ j ≤ 419)) then 0 else g j) → va_P D ee_cl (ws.set ka (aa, .inl (dA 0, 7900, .inl gi))) H → va_D (fun q => B ≤ q) (ws.set ka (aa, .inl (dA 0, 7900, .inl gi))) → va_S (fun q => B ≤ q) s.heap H locs → lv_has ls 7 [(5, .int (nI i)), (0, .ref ax), (1, .int v1), (2, .int v2), (3, .int v3), (4, .int v4)] → W p l e R s m args below meth c H locs 0 0 Q (F0 m 3 ls []) := by
  obtain ⟨hx, hb, hml, hown, hts, hG, hB, -⟩ := id hC
  have hml7 : ee_ml 68 = 7 := by decide +kernel
  have hkk : k ≠ ka := fun z => by
    subst z
    rw [hk] at hka
    cases hka
  have hlen : ka < ws.length := (List.getElem?_eq_some_iff.mp hka).1
  have hw0 : ∀ f : Nat → Int32, (ws.set ka (aa, (.inl (dA 0, 7900, .inl f) : va_E)))[k]? = some (ax, .inr (11, vs9)) := fun f => by rw [List.getElem?_set_ne (fun z => hkk z.symm)]; exact hk
  have hw1 : ∀ f : Nat → Int32, (ws.set ka (aa, (.inl (dA 0, 7900, .inl f) : va_E)))[ka]? = some (aa, .inl (dA 0, 7900, .inl f)) := fun f => List.getElem?_set_self hlen
  intro n
  induction n with
  | zero =>
    intro i hi gi H locs ls hgi hP hD hS hl
    have e1 : i = 1270 := by omega
    subst e1
    refine lv_iload hx hb (show decode (ee_cb 68) 3 = .ok (.iload 5, 2) by decide +kernel) (lv_at hl 0 rfl) ?_
    refine lv_sipush (v := nI 1270) hx hb (show decode (ee_cb 68) 5 = .ok (.sipush 1270, 3) by decide +kernel) (by decide +kernel) ?_
    refine lv_icmp_ge (tgt := 50) hx hb (show decode (ee_cb 68) 8 = .ok (.if_icmp .ge 42, 3) by decide +kernel) (by decide) (fun _ => ?_) (fun z => absurd (by decide +kernel) z)
    exact fin gi H locs ls hgi hP hD hS hl
  | succ n ih =>
    intro i hi gi H locs ls hgi hP hD hS hl
    refine lv_iload hx hb (show decode (ee_cb 68) 3 = .ok (.iload 5, 2) by decide +kernel) (lv_at hl 0 rfl) ?_
    refine lv_sipush (v := nI 1270) hx hb (show decode (ee_cb 68) 5 = .ok (.sipush 1270, 3) by decide +kernel) (by decide +kernel) ?_
    refine lv_icmp_ge (tgt := 50) hx hb (show decode (ee_cb 68) 8 = .ok (.if_icmp .ge 42, 3) by decide +kernel) (by decide) (fun z => absurd z (nI_ge (by omega) (by omega))) (fun _ => ?_)
    have nxt : ∀ (gi2 : Nat → Int32) (H2 : Heap) (locs2 : List Loc), (∀ j, gi2 j = if j < i + 1 ∧ ¬((8 ≤ j ∧ j ≤ 10) ∨ (20 ≤ j ∧ j ≤ 419)) then 0 else g j) → va_P D ee_cl (ws.set ka (aa, .inl (dA 0, 7900, .inl gi2))) H2 → va_D (fun q => B ≤ q) (ws.set ka (aa, .inl (dA 0, 7900, .inl gi2))) → va_S (fun q => B ≤ q) s.heap H2 locs2 → W p l e R s m args below meth c H2 locs2 0 0 Q (F0 m 44 ls []) := by
      intro gi2 H2 locs2 hgi2 hP2 hD2 hS2
      refine lv_iinc (v := nI (i + 1)) (lv' := [(5, .int (nI (i + 1))), (0, .ref ax), (1, .int v1), (2, .int v2), (3, .int v3), (4, .int v4)]) hx hb (show decode (ee_cb 68) 44 = .ok (.iinc 5 1, 3) by decide +kernel) hl (k := 0) rfl (nI_1 i) (by decide) rfl (fun ls2 hl2 => ?_)
      refine lv_goto (tgt := 3) hx hb (show decode (ee_cb 68) 47 = .ok (.goto (-44), 3) by decide +kernel) (by decide) ?_
      exact ih (i + 1) (by omega) gi2 H2 locs2 ls2 hgi2 hP2 hD2 hS2 hl2
    refine lv_iload hx hb (show decode (ee_cb 68) 11 = .ok (.iload 5, 2) by decide +kernel) (lv_at hl 0 rfl) ?_
    refine lv_bipush (v := nI 8) hx hb (show decode (ee_cb 68) 13 = .ok (.bipush 8, 2) by decide +kernel) (by decide +kernel) ?_
    refine lv_bipush (v := nI 10) hx hb (show decode (ee_cb 68) 15 = .ok (.bipush 10, 2) by decide +kernel) (by decide +kernel) ?_
    refine sm_41 (pc := 17) (a := 39) (b := 72) (n := 3) (vAs := [.int (nI i), .int (nI 8), .int (nI 10)]) (vr := []) hR hd0 hC (by decide +kernel) (by decide) (ee_isin_ct (a := i) (lo := 8) (hi := 10) (ws0 := (ws.set ka (aa, .inl (dA 0, 7900, .inl gi)))) (by omega) (by omega) (by omega)) hP hD hS (hl.1.trans hml7.symm) ⟨rfl, rfl⟩ (show (3 : Nat) = ee_np 72 by decide +kernel) (by decide) ⟨Nat.zero_le _, Nat.zero_le _⟩ ?_
    rintro v ws1 H1 locs1 k1 n1 ⟨rfl, rfl, rfl, rfl⟩ hP hD hS
    refine lv_if_ne (tgt := 44) hx hb (show decode (ee_cb 68) 20 = .ok (.ifCond .ne 24, 3) by decide +kernel) (by decide) (fun h1 => ?_) (fun h1 => ?_)
    · have hin : 8 ≤ i ∧ i ≤ 10 := Classical.byContradiction fun h9 => h1 (if_neg h9)
      refine nxt gi _ _ (fun j => ?_) hP hD hS
      rw [hgi]
      by_cases hj : j < i ∧ ¬((8 ≤ j ∧ j ≤ 10) ∨ (20 ≤ j ∧ j ≤ 419))
      · rw [if_pos hj, if_pos (by omega)]
      · rw [if_neg hj, if_neg (by omega)]
    · have hin : ¬(8 ≤ i ∧ i ≤ 10) := fun h9 => by
        rw [if_pos h9] at h1
        exact absurd h1 (by decide)
      refine lv_iload hx hb (show decode (ee_cb 68) 23 = .ok (.iload 5, 2) by decide +kernel) (lv_at hl 0 rfl) ?_
      refine lv_bipush (v := nI 20) hx hb (show decode (ee_cb 68) 25 = .ok (.bipush 20, 2) by decide +kernel) (by decide +kernel) ?_
      refine lv_sipush (v := nI 419) hx hb (show decode (ee_cb 68) 27 = .ok (.sipush 419, 3) by decide +kernel) (by decide +kernel) ?_
      refine sm_41 (pc := 30) (a := 39) (b := 72) (n := 3) (vAs := [.int (nI i), .int (nI 20), .int (nI 419)]) (vr := []) hR hd0 hC (by decide +kernel) (by decide) (ee_isin_ct (a := i) (lo := 20) (hi := 419) (ws0 := (ws.set ka (aa, .inl (dA 0, 7900, .inl gi)))) (by omega) (by omega) (by omega)) hP hD hS (hl.1.trans hml7.symm) ⟨rfl, rfl⟩ (show (3 : Nat) = ee_np 72 by decide +kernel) (by decide) ⟨Nat.zero_le _, Nat.zero_le _⟩ ?_
      rintro v ws1 H1 locs1 k1 n1 ⟨rfl, rfl, rfl, rfl⟩ hP hD hS
      refine lv_if_ne (tgt := 44) hx hb (show decode (ee_cb 68) 33 = .ok (.ifCond .ne 11, 3) by decide +kernel) (by decide) (fun h2 => ?_) (fun h2 => ?_)
      · have hin2 : 20 ≤ i ∧ i ≤ 419 := Classical.byContradiction fun h9 => h2 (if_neg h9)
        refine nxt gi _ _ (fun j => ?_) hP hD hS
        rw [hgi]
        by_cases hj : j < i ∧ ¬((8 ≤ j ∧ j ≤ 10) ∨ (20 ≤ j ∧ j ≤ 419))
        · rw [if_pos hj, if_pos (by omega)]
        · rw [if_neg hj, if_neg (by omega)]
      · have hin2 : ¬(20 ≤ i ∧ i ≤ 419) := fun h9 => by
          rw [if_pos h9] at h2
          exact absurd h2 (by decide)
        refine ee_sta_row (pc := 36) hC (hw0 _) hv0 hP (lv_at hl 1 rfl) (by decide +kernel) (by decide +kernel) ?_
        refine lv_iload hx hb (show decode (ee_cb 68) 40 = .ok (.iload 5, 2) by decide +kernel) (lv_at hl 0 rfl) ?_
        refine lv_iconst (v := 0) hx hb (show decode (ee_cb 68) 42 = .ok (.iconst 0, 1) by decide +kernel) (by decide +kernel) ?_
        refine va_iast hx hb hG.1 hP hD hS ka 0 (hw1 _) rfl (vp_in_nI (by omega) (by omega)) (show decode (ee_cb 68) 43 = .ok (.iastore, 1) by decide +kernel) (fun H1 locs1 hP1 hD1 hS1 => ?_)
        rw [nI_clamp (by omega), List.set_set] at hP1 hD1
        refine nxt _ _ _ (fun j => ?_) hP1 hD1 hS1
        by_cases hj : j = i
        · rw [hj, pk_us, if_pos (by omega)]
        · rw [pk_un hj, hgi]
          by_cases hj2 : j < i ∧ ¬((8 ≤ j ∧ j ≤ 10) ∨ (20 ≤ j ∧ j ≤ 419))
          · rw [if_pos hj2, if_pos (by omega)]
          · rw [if_neg hj2, if_neg (by omega)]
theorem ee_sta_B {d : Nat} (hR : d ≤ R.frames ∧ 40 * d ≤ R.locals) (hd0 : 0 < d) (hC : ee_C p s m args meth c D dA xa xt B 68) {ws : va_W} {k ka ax aa : Nat} {vs9 : List Value} {g : Nat → Int32} {v1 v2 v3 v4 : Int32} (hk : ws[k]? = some (ax, .inr (11, vs9))) (hv0 : vs9[0]? = some (.ref aa)) (hka : ws[ka]? = some (aa, .inl (dA 0, 7900, .inl g))) (fin : ∀ (gi : Nat → Int32) (H : Heap) (locs : List Loc) (ls : Array Slot), (∀ j, gi j = if 428 ≤ j ∧ j < 428 + (8) then -1 else g j) → va_P D ee_cl (ws.set ka (aa, .inl (dA 0, 7900, .inl gi))) H → va_D (fun q => B ≤ q) (ws.set ka (aa, .inl (dA 0, 7900, .inl gi))) → va_S (fun q => B ≤ q) s.heap H locs → lv_has ls 7 [(5, .int (nI 8)), (0, .ref ax), (1, .int v1), (2, .int v2), (3, .int v3), (4, .int v4)] → W p l e R s m args below meth c H locs 0 0 Q (F0 m 107 ls [])) :
    ∀ (n i : Nat), i + n = 8 → ∀ (gi : Nat → Int32) (H : Heap) (locs : List Loc) (ls : Array Slot), (∀ j, gi j = if 428 ≤ j ∧ j < 428 + (i) then -1 else g j) → va_P D ee_cl (ws.set ka (aa, .inl (dA 0, 7900, .inl gi))) H → va_D (fun q => B ≤ q) (ws.set ka (aa, .inl (dA 0, 7900, .inl gi))) → va_S (fun q => B ≤ q) s.heap H locs → lv_has ls 7 [(5, .int (nI i)), (0, .ref ax), (1, .int v1), (2, .int v2), (3, .int v3), (4, .int v4)] → W p l e R s m args below meth c H locs 0 0 Q (F0 m 82 ls []) := by
  obtain ⟨hx, hb, hml, hown, hts, hG, hB, -⟩ := id hC
  have hml7 : ee_ml 68 = 7 := by decide +kernel
  have hkk : k ≠ ka := fun z => by
    subst z
    rw [hk] at hka
    cases hka
  have hlen : ka < ws.length := (List.getElem?_eq_some_iff.mp hka).1
  have hw0 : ∀ f : Nat → Int32, (ws.set ka (aa, (.inl (dA 0, 7900, .inl f) : va_E)))[k]? = some (ax, .inr (11, vs9)) := fun f => by rw [List.getElem?_set_ne (fun z => hkk z.symm)]; exact hk
  have hw1 : ∀ f : Nat → Int32, (ws.set ka (aa, (.inl (dA 0, 7900, .inl f) : va_E)))[ka]? = some (aa, .inl (dA 0, 7900, .inl f)) := fun f => List.getElem?_set_self hlen
  intro n
  induction n with
  | zero =>
    intro i hi gi H locs ls hgi hP hD hS hl
    have e1 : i = 8 := by omega
    subst e1
    refine lv_iload hx hb (show decode (ee_cb 68) 82 = .ok (.iload 5, 2) by decide +kernel) (lv_at hl 0 rfl) ?_
    refine lv_bipush (v := nI 8) hx hb (show decode (ee_cb 68) 84 = .ok (.bipush 8, 2) by decide +kernel) (by decide +kernel) ?_
    refine lv_icmp_ge (tgt := 107) hx hb (show decode (ee_cb 68) 86 = .ok (.if_icmp .ge 21, 3) by decide +kernel) (by decide) (fun _ => ?_) (fun z => absurd (by decide +kernel) z)
    exact fin gi H locs ls hgi hP hD hS hl
  | succ n ih =>
    intro i hi gi H locs ls hgi hP hD hS hl
    refine lv_iload hx hb (show decode (ee_cb 68) 82 = .ok (.iload 5, 2) by decide +kernel) (lv_at hl 0 rfl) ?_
    refine lv_bipush (v := nI 8) hx hb (show decode (ee_cb 68) 84 = .ok (.bipush 8, 2) by decide +kernel) (by decide +kernel) ?_
    refine lv_icmp_ge (tgt := 107) hx hb (show decode (ee_cb 68) 86 = .ok (.if_icmp .ge 21, 3) by decide +kernel) (by decide) (fun z => absurd z (nI_ge (by omega) (by omega))) (fun _ => ?_)
    refine ee_sta_row (pc := 89) hC (hw0 _) hv0 hP (lv_at hl 1 rfl) (by decide +kernel) (by decide +kernel) ?_
    refine lv_sipush (v := nI 428) hx hb (show decode (ee_cb 68) 93 = .ok (.sipush 428, 3) by decide +kernel) (by decide +kernel) ?_
    refine lv_iload hx hb (show decode (ee_cb 68) 96 = .ok (.iload 5, 2) by decide +kernel) (lv_at hl 0 rfl) ?_
    refine lv_iadd hx hb (show decode (ee_cb 68) 98 = .ok (.iadd, 1) by decide +kernel) ?_
    refine lv_iconst (v := -1) hx hb (show decode (ee_cb 68) 99 = .ok (.iconst (-1), 1) by decide +kernel) (by decide +kernel) ?_
    rw [nI_add]
    refine va_iast hx hb hG.1 hP hD hS ka 0 (hw1 _) rfl (vp_in_nI (by omega) (by omega)) (show decode (ee_cb 68) 100 = .ok (.iastore, 1) by decide +kernel) (fun H1 locs1 hP1 hD1 hS1 => ?_)
    rw [nI_clamp (by omega), List.set_set] at hP1 hD1
    refine lv_iinc (v := nI (i + 1)) (lv' := [(5, .int (nI (i + 1))), (0, .ref ax), (1, .int v1), (2, .int v2), (3, .int v3), (4, .int v4)]) hx hb (show decode (ee_cb 68) 101 = .ok (.iinc 5 1, 3) by decide +kernel) hl (k := 0) rfl (nI_1 i) (by decide) rfl (fun ls2 hl2 => ?_)
    refine lv_goto (tgt := 82) hx hb (show decode (ee_cb 68) 104 = .ok (.goto (-22), 3) by decide +kernel) (by decide) ?_
    refine ih (i + 1) (by omega) _ H1 locs1 ls2 (fun j => ?_) hP1 hD1 hS1 hl2
    by_cases hj : j = 428 + i
    · rw [hj, pk_us, if_pos (by omega)]
    · rw [pk_un hj, hgi]
      by_cases hj2 : 428 ≤ j ∧ j < 428 + (i)
      · rw [if_pos hj2, if_pos (by omega)]
      · rw [if_neg hj2, if_neg (by omega)]
theorem ee_sta_C {d : Nat} (hR : d ≤ R.frames ∧ 40 * d ≤ R.locals) (hd0 : 0 < d) (hC : ee_C p s m args meth c D dA xa xt B 68) {ws : va_W} {k ka ax aa : Nat} {vs9 : List Value} {g : Nat → Int32} {v1 v2 v3 v4 : Int32} (hk : ws[k]? = some (ax, .inr (11, vs9))) (hv0 : vs9[0]? = some (.ref aa)) (hka : ws[ka]? = some (aa, .inl (dA 0, 7900, .inl g))) (fin : ∀ (gi : Nat → Int32) (H : Heap) (locs : List Loc) (ls : Array Slot), (∀ j, gi j = if 444 ≤ j ∧ j < 444 + (24) then -1 else g j) → va_P D ee_cl (ws.set ka (aa, .inl (dA 0, 7900, .inl gi))) H → va_D (fun q => B ≤ q) (ws.set ka (aa, .inl (dA 0, 7900, .inl gi))) → va_S (fun q => B ≤ q) s.heap H locs → lv_has ls 7 [(5, .int (nI 24)), (0, .ref ax), (1, .int v1), (2, .int v2), (3, .int v3), (4, .int v4)] → W p l e R s m args below meth c H locs 0 0 Q (F0 m 135 ls [])) :
    ∀ (n i : Nat), i + n = 24 → ∀ (gi : Nat → Int32) (H : Heap) (locs : List Loc) (ls : Array Slot), (∀ j, gi j = if 444 ≤ j ∧ j < 444 + (i) then -1 else g j) → va_P D ee_cl (ws.set ka (aa, .inl (dA 0, 7900, .inl gi))) H → va_D (fun q => B ≤ q) (ws.set ka (aa, .inl (dA 0, 7900, .inl gi))) → va_S (fun q => B ≤ q) s.heap H locs → lv_has ls 7 [(5, .int (nI i)), (0, .ref ax), (1, .int v1), (2, .int v2), (3, .int v3), (4, .int v4)] → W p l e R s m args below meth c H locs 0 0 Q (F0 m 110 ls []) := by
  obtain ⟨hx, hb, hml, hown, hts, hG, hB, -⟩ := id hC
  have hml7 : ee_ml 68 = 7 := by decide +kernel
  have hkk : k ≠ ka := fun z => by
    subst z
    rw [hk] at hka
    cases hka
  have hlen : ka < ws.length := (List.getElem?_eq_some_iff.mp hka).1
  have hw0 : ∀ f : Nat → Int32, (ws.set ka (aa, (.inl (dA 0, 7900, .inl f) : va_E)))[k]? = some (ax, .inr (11, vs9)) := fun f => by rw [List.getElem?_set_ne (fun z => hkk z.symm)]; exact hk
  have hw1 : ∀ f : Nat → Int32, (ws.set ka (aa, (.inl (dA 0, 7900, .inl f) : va_E)))[ka]? = some (aa, .inl (dA 0, 7900, .inl f)) := fun f => List.getElem?_set_self hlen
  intro n
  induction n with
  | zero =>
    intro i hi gi H locs ls hgi hP hD hS hl
    have e1 : i = 24 := by omega
    subst e1
    refine lv_iload hx hb (show decode (ee_cb 68) 110 = .ok (.iload 5, 2) by decide +kernel) (lv_at hl 0 rfl) ?_
    refine lv_bipush (v := nI 24) hx hb (show decode (ee_cb 68) 112 = .ok (.bipush 24, 2) by decide +kernel) (by decide +kernel) ?_
    refine lv_icmp_ge (tgt := 135) hx hb (show decode (ee_cb 68) 114 = .ok (.if_icmp .ge 21, 3) by decide +kernel) (by decide) (fun _ => ?_) (fun z => absurd (by decide +kernel) z)
    exact fin gi H locs ls hgi hP hD hS hl
  | succ n ih =>
    intro i hi gi H locs ls hgi hP hD hS hl
    refine lv_iload hx hb (show decode (ee_cb 68) 110 = .ok (.iload 5, 2) by decide +kernel) (lv_at hl 0 rfl) ?_
    refine lv_bipush (v := nI 24) hx hb (show decode (ee_cb 68) 112 = .ok (.bipush 24, 2) by decide +kernel) (by decide +kernel) ?_
    refine lv_icmp_ge (tgt := 135) hx hb (show decode (ee_cb 68) 114 = .ok (.if_icmp .ge 21, 3) by decide +kernel) (by decide) (fun z => absurd z (nI_ge (by omega) (by omega))) (fun _ => ?_)
    refine ee_sta_row (pc := 117) hC (hw0 _) hv0 hP (lv_at hl 1 rfl) (by decide +kernel) (by decide +kernel) ?_
    refine lv_sipush (v := nI 444) hx hb (show decode (ee_cb 68) 121 = .ok (.sipush 444, 3) by decide +kernel) (by decide +kernel) ?_
    refine lv_iload hx hb (show decode (ee_cb 68) 124 = .ok (.iload 5, 2) by decide +kernel) (lv_at hl 0 rfl) ?_
    refine lv_iadd hx hb (show decode (ee_cb 68) 126 = .ok (.iadd, 1) by decide +kernel) ?_
    refine lv_iconst (v := -1) hx hb (show decode (ee_cb 68) 127 = .ok (.iconst (-1), 1) by decide +kernel) (by decide +kernel) ?_
    rw [nI_add]
    refine va_iast hx hb hG.1 hP hD hS ka 0 (hw1 _) rfl (vp_in_nI (by omega) (by omega)) (show decode (ee_cb 68) 128 = .ok (.iastore, 1) by decide +kernel) (fun H1 locs1 hP1 hD1 hS1 => ?_)
    rw [nI_clamp (by omega), List.set_set] at hP1 hD1
    refine lv_iinc (v := nI (i + 1)) (lv' := [(5, .int (nI (i + 1))), (0, .ref ax), (1, .int v1), (2, .int v2), (3, .int v3), (4, .int v4)]) hx hb (show decode (ee_cb 68) 129 = .ok (.iinc 5 1, 3) by decide +kernel) hl (k := 0) rfl (nI_1 i) (by decide) rfl (fun ls2 hl2 => ?_)
    refine lv_goto (tgt := 110) hx hb (show decode (ee_cb 68) 132 = .ok (.goto (-22), 3) by decide +kernel) (by decide) ?_
    refine ih (i + 1) (by omega) _ H1 locs1 ls2 (fun j => ?_) hP1 hD1 hS1 hl2
    by_cases hj : j = 444 + i
    · rw [hj, pk_us, if_pos (by omega)]
    · rw [pk_un hj, hgi]
      by_cases hj2 : 444 ≤ j ∧ j < 444 + (i)
      · rw [if_pos hj2, if_pos (by omega)]
      · rw [if_neg hj2, if_neg (by omega)]
theorem ee_sta_I {d t : Nat} (ht : t < 4) (hR : d ≤ R.frames ∧ 40 * d ≤ R.locals) (hd0 : 0 < d) (hC : ee_C p s m args meth c D dA xa xt B 68) {ws : va_W} {k ka ax aa : Nat} {vs9 : List Value} {g : Nat → Int32} {v1 v2 v3 v4 : Int32} (hk : ws[k]? = some (ax, .inr (11, vs9))) (hv0 : vs9[0]? = some (.ref aa)) (hka : ws[ka]? = some (aa, .inl (dA 0, 7900, .inl g))) (fin : ∀ (gi : Nat → Int32) (H : Heap) (locs : List Loc) (ls : Array Slot), (∀ j, gi j = if (470 ≤ j ∧ (j - 470) / 200 < t ∧ ((j - 470) % 200 = 20 ∨ (j - 470) % 200 = 25 ∨ (27 ≤ (j - 470) % 200 ∧ (j - 470) % 200 ≤ 31))) ∨ (j = 490 + 200 * t ∨ j = 495 + 200 * t ∨ (497 + 200 * t ≤ j ∧ j < 498 + 200 * t + (4))) then -1 else g j) → va_P D ee_cl (ws.set ka (aa, .inl (dA 0, 7900, .inl gi))) H → va_D (fun q => B ≤ q) (ws.set ka (aa, .inl (dA 0, 7900, .inl gi))) → va_S (fun q => B ≤ q) s.heap H locs → lv_has ls 7 [(6, .int (nI 4)), (5, .int (nI t)), (0, .ref ax), (1, .int v1), (2, .int v2), (3, .int v3), (4, .int v4)] → W p l e R s m args below meth c H locs 0 0 Q (F0 m 218 ls [])) :
    ∀ (n i : Nat), i + n = 4 → ∀ (gi : Nat → Int32) (H : Heap) (locs : List Loc) (ls : Array Slot), (∀ j, gi j = if (470 ≤ j ∧ (j - 470) / 200 < t ∧ ((j - 470) % 200 = 20 ∨ (j - 470) % 200 = 25 ∨ (27 ≤ (j - 470) % 200 ∧ (j - 470) % 200 ≤ 31))) ∨ (j = 490 + 200 * t ∨ j = 495 + 200 * t ∨ (497 + 200 * t ≤ j ∧ j < 498 + 200 * t + (i))) then -1 else g j) → va_P D ee_cl (ws.set ka (aa, .inl (dA 0, 7900, .inl gi))) H → va_D (fun q => B ≤ q) (ws.set ka (aa, .inl (dA 0, 7900, .inl gi))) → va_S (fun q => B ≤ q) s.heap H locs → lv_has ls 7 [(6, .int (nI i)), (5, .int (nI t)), (0, .ref ax), (1, .int v1), (2, .int v2), (3, .int v3), (4, .int v4)] → W p l e R s m args below meth c H locs 0 0 Q (F0 m 189 ls []) := by
  obtain ⟨hx, hb, hml, hown, hts, hG, hB, -⟩ := id hC
  have hml7 : ee_ml 68 = 7 := by decide +kernel
  have hkk : k ≠ ka := fun z => by
    subst z
    rw [hk] at hka
    cases hka
  have hlen : ka < ws.length := (List.getElem?_eq_some_iff.mp hka).1
  have hw0 : ∀ f : Nat → Int32, (ws.set ka (aa, (.inl (dA 0, 7900, .inl f) : va_E)))[k]? = some (ax, .inr (11, vs9)) := fun f => by rw [List.getElem?_set_ne (fun z => hkk z.symm)]; exact hk
  have hw1 : ∀ f : Nat → Int32, (ws.set ka (aa, (.inl (dA 0, 7900, .inl f) : va_E)))[ka]? = some (aa, .inl (dA 0, 7900, .inl f)) := fun f => List.getElem?_set_self hlen
  intro n
  induction n with
  | zero =>
    intro i hi gi H locs ls hgi hP hD hS hl
    have e1 : i = 4 := by omega
    subst e1
    refine lv_iload hx hb (show decode (ee_cb 68) 189 = .ok (.iload 6, 2) by decide +kernel) (lv_at hl 0 rfl) ?_
    refine lv_iconst (v := nI 4) hx hb (show decode (ee_cb 68) 191 = .ok (.iconst 4, 1) by decide +kernel) (by decide +kernel) ?_
    refine lv_icmp_ge (tgt := 218) hx hb (show decode (ee_cb 68) 192 = .ok (.if_icmp .ge 26, 3) by decide +kernel) (by decide) (fun _ => ?_) (fun z => absurd (by decide +kernel) z)
    exact fin gi H locs ls hgi hP hD hS hl
  | succ n ih =>
    intro i hi gi H locs ls hgi hP hD hS hl
    refine lv_iload hx hb (show decode (ee_cb 68) 189 = .ok (.iload 6, 2) by decide +kernel) (lv_at hl 0 rfl) ?_
    refine lv_iconst (v := nI 4) hx hb (show decode (ee_cb 68) 191 = .ok (.iconst 4, 1) by decide +kernel) (by decide +kernel) ?_
    refine lv_icmp_ge (tgt := 218) hx hb (show decode (ee_cb 68) 192 = .ok (.if_icmp .ge 26, 3) by decide +kernel) (by decide) (fun z => absurd z (nI_ge (by omega) (by omega))) (fun _ => ?_)
    refine ee_sta_row (pc := 195) hC (hw0 _) hv0 hP (lv_at hl 2 rfl) (by decide +kernel) (by decide +kernel) ?_
    refine ee_sta_thr (pc := 199) hR hd0 hC hP hD hS (hl.1.trans hml7.symm) (lv_at hl 1 rfl) (by decide +kernel) (by decide +kernel) ?_
    intro H locs hP hD hS
    refine lv_bipush (v := nI 28) hx hb (show decode (ee_cb 68) 204 = .ok (.bipush 28, 2) by decide +kernel) (by decide +kernel) ?_
    refine lv_iadd hx hb (show decode (ee_cb 68) 206 = .ok (.iadd, 1) by decide +kernel) ?_
    refine lv_iload hx hb (show decode (ee_cb 68) 207 = .ok (.iload 6, 2) by decide +kernel) (lv_at hl 0 rfl) ?_
    refine lv_iadd hx hb (show decode (ee_cb 68) 209 = .ok (.iadd, 1) by decide +kernel) ?_
    refine lv_iconst (v := -1) hx hb (show decode (ee_cb 68) 210 = .ok (.iconst (-1), 1) by decide +kernel) (by decide +kernel) ?_
    rw [nI_add, nI_add]
    refine va_iast hx hb hG.1 hP hD hS ka 0 (hw1 _) rfl (vp_in_nI (by omega) (by omega)) (show decode (ee_cb 68) 211 = .ok (.iastore, 1) by decide +kernel) (fun H1 locs1 hP1 hD1 hS1 => ?_)
    rw [nI_clamp (by omega), List.set_set] at hP1 hD1
    refine lv_iinc (v := nI (i + 1)) (lv' := [(6, .int (nI (i + 1))), (5, .int (nI t)), (0, .ref ax), (1, .int v1), (2, .int v2), (3, .int v3), (4, .int v4)]) hx hb (show decode (ee_cb 68) 212 = .ok (.iinc 6 1, 3) by decide +kernel) hl (k := 0) rfl (nI_1 i) (by decide) rfl (fun ls2 hl2 => ?_)
    refine lv_goto (tgt := 189) hx hb (show decode (ee_cb 68) 215 = .ok (.goto (-26), 3) by decide +kernel) (by decide) ?_
    refine ih (i + 1) (by omega) _ H1 locs1 ls2 (fun j => ?_) hP1 hD1 hS1 hl2
    by_cases hj : j = 470 + 200 * t + 28 + i
    · rw [hj, pk_us, if_pos (by omega)]
    · rw [pk_un hj, hgi]
      by_cases hj2 : (470 ≤ j ∧ (j - 470) / 200 < t ∧ ((j - 470) % 200 = 20 ∨ (j - 470) % 200 = 25 ∨ (27 ≤ (j - 470) % 200 ∧ (j - 470) % 200 ≤ 31))) ∨ (j = 490 + 200 * t ∨ j = 495 + 200 * t ∨ (497 + 200 * t ≤ j ∧ j < 498 + 200 * t + (i)))
      · rw [if_pos hj2, if_pos (by omega)]
      · rw [if_neg hj2, if_neg (by omega)]
theorem ee_sta_D {d : Nat} (hR : d ≤ R.frames ∧ 40 * d ≤ R.locals) (hd0 : 0 < d) (hC : ee_C p s m args meth c D dA xa xt B 68) {ws : va_W} {k ka ax aa : Nat} {vs9 : List Value} {g : Nat → Int32} {v1 v2 v3 v4 : Int32} (hk : ws[k]? = some (ax, .inr (11, vs9))) (hv0 : vs9[0]? = some (.ref aa)) (hka : ws[ka]? = some (aa, .inl (dA 0, 7900, .inl g))) (fin : ∀ (gi : Nat → Int32) (H : Heap) (locs : List Loc) (ls : Array Slot), (∀ j, gi j = if 470 ≤ j ∧ (j - 470) / 200 < 4 ∧ ((j - 470) % 200 = 20 ∨ (j - 470) % 200 = 25 ∨ (27 ≤ (j - 470) % 200 ∧ (j - 470) % 200 ≤ 31)) then -1 else g j) → va_P D ee_cl (ws.set ka (aa, .inl (dA 0, 7900, .inl gi))) H → va_D (fun q => B ≤ q) (ws.set ka (aa, .inl (dA 0, 7900, .inl gi))) → va_S (fun q => B ≤ q) s.heap H locs → lv_has ls 7 [(5, .int (nI 4)), (0, .ref ax), (1, .int v1), (2, .int v2), (3, .int v3), (4, .int v4)] → W p l e R s m args below meth c H locs 0 0 Q (F0 m 224 ls [])) :
    ∀ (n i : Nat), i + n = 4 → ∀ (gi : Nat → Int32) (H : Heap) (locs : List Loc) (ls : Array Slot), (∀ j, gi j = if 470 ≤ j ∧ (j - 470) / 200 < i ∧ ((j - 470) % 200 = 20 ∨ (j - 470) % 200 = 25 ∨ (27 ≤ (j - 470) % 200 ∧ (j - 470) % 200 ≤ 31)) then -1 else g j) → va_P D ee_cl (ws.set ka (aa, .inl (dA 0, 7900, .inl gi))) H → va_D (fun q => B ≤ q) (ws.set ka (aa, .inl (dA 0, 7900, .inl gi))) → va_S (fun q => B ≤ q) s.heap H locs → lv_has ls 7 [(5, .int (nI i)), (0, .ref ax), (1, .int v1), (2, .int v2), (3, .int v3), (4, .int v4)] → W p l e R s m args below meth c H locs 0 0 Q (F0 m 138 ls []) := by
  obtain ⟨hx, hb, hml, hown, hts, hG, hB, -⟩ := id hC
  have hml7 : ee_ml 68 = 7 := by decide +kernel
  have hkk : k ≠ ka := fun z => by
    subst z
    rw [hk] at hka
    cases hka
  have hlen : ka < ws.length := (List.getElem?_eq_some_iff.mp hka).1
  have hw0 : ∀ f : Nat → Int32, (ws.set ka (aa, (.inl (dA 0, 7900, .inl f) : va_E)))[k]? = some (ax, .inr (11, vs9)) := fun f => by rw [List.getElem?_set_ne (fun z => hkk z.symm)]; exact hk
  have hw1 : ∀ f : Nat → Int32, (ws.set ka (aa, (.inl (dA 0, 7900, .inl f) : va_E)))[ka]? = some (aa, .inl (dA 0, 7900, .inl f)) := fun f => List.getElem?_set_self hlen
  intro n
  induction n with
  | zero =>
    intro i hi gi H locs ls hgi hP hD hS hl
    have e1 : i = 4 := by omega
    subst e1
    refine lv_iload hx hb (show decode (ee_cb 68) 138 = .ok (.iload 5, 2) by decide +kernel) (lv_at hl 0 rfl) ?_
    refine lv_iconst (v := nI 4) hx hb (show decode (ee_cb 68) 140 = .ok (.iconst 4, 1) by decide +kernel) (by decide +kernel) ?_
    refine lv_icmp_ge (tgt := 224) hx hb (show decode (ee_cb 68) 141 = .ok (.if_icmp .ge 83, 3) by decide +kernel) (by decide) (fun _ => ?_) (fun z => absurd (by decide +kernel) z)
    exact fin gi H locs ls hgi hP hD hS hl
  | succ n ih =>
    intro i hi gi H locs ls hgi hP hD hS hl
    refine lv_iload hx hb (show decode (ee_cb 68) 138 = .ok (.iload 5, 2) by decide +kernel) (lv_at hl 0 rfl) ?_
    refine lv_iconst (v := nI 4) hx hb (show decode (ee_cb 68) 140 = .ok (.iconst 4, 1) by decide +kernel) (by decide +kernel) ?_
    refine lv_icmp_ge (tgt := 224) hx hb (show decode (ee_cb 68) 141 = .ok (.if_icmp .ge 83, 3) by decide +kernel) (by decide) (fun z => absurd z (nI_ge (by omega) (by omega))) (fun _ => ?_)
    refine ee_sta_row (pc := 144) hC (hw0 _) hv0 hP (lv_at hl 1 rfl) (by decide +kernel) (by decide +kernel) ?_
    refine ee_sta_thr (pc := 148) hR hd0 hC hP hD hS (hl.1.trans hml7.symm) (lv_at hl 0 rfl) (by decide +kernel) (by decide +kernel) ?_
    intro H locs hP hD hS
    refine lv_bipush (v := nI 20) hx hb (show decode (ee_cb 68) 153 = .ok (.bipush 20, 2) by decide +kernel) (by decide +kernel) ?_
    refine lv_iadd hx hb (show decode (ee_cb 68) 155 = .ok (.iadd, 1) by decide +kernel) ?_
    refine lv_iconst (v := -1) hx hb (show decode (ee_cb 68) 156 = .ok (.iconst (-1), 1) by decide +kernel) (by decide +kernel) ?_
    rw [nI_add]
    refine va_iast hx hb hG.1 hP hD hS ka 0 (hw1 _) rfl (vp_in_nI (by omega) (by omega)) (show decode (ee_cb 68) 157 = .ok (.iastore, 1) by decide +kernel) (fun H locs hP hD hS => ?_)
    rw [nI_clamp (by omega), List.set_set] at hP hD
    refine ee_sta_row (pc := 158) hC (hw0 _) hv0 hP (lv_at hl 1 rfl) (by decide +kernel) (by decide +kernel) ?_
    refine ee_sta_thr (pc := 162) hR hd0 hC hP hD hS (hl.1.trans hml7.symm) (lv_at hl 0 rfl) (by decide +kernel) (by decide +kernel) ?_
    intro H locs hP hD hS
    refine lv_bipush (v := nI 25) hx hb (show decode (ee_cb 68) 167 = .ok (.bipush 25, 2) by decide +kernel) (by decide +kernel) ?_
    refine lv_iadd hx hb (show decode (ee_cb 68) 169 = .ok (.iadd, 1) by decide +kernel) ?_
    refine lv_iconst (v := -1) hx hb (show decode (ee_cb 68) 170 = .ok (.iconst (-1), 1) by decide +kernel) (by decide +kernel) ?_
    rw [nI_add]
    refine va_iast hx hb hG.1 hP hD hS ka 0 (hw1 _) rfl (vp_in_nI (by omega) (by omega)) (show decode (ee_cb 68) 171 = .ok (.iastore, 1) by decide +kernel) (fun H locs hP hD hS => ?_)
    rw [nI_clamp (by omega), List.set_set] at hP hD
    refine ee_sta_row (pc := 172) hC (hw0 _) hv0 hP (lv_at hl 1 rfl) (by decide +kernel) (by decide +kernel) ?_
    refine ee_sta_thr (pc := 176) hR hd0 hC hP hD hS (hl.1.trans hml7.symm) (lv_at hl 0 rfl) (by decide +kernel) (by decide +kernel) ?_
    intro H locs hP hD hS
    refine lv_bipush (v := nI 27) hx hb (show decode (ee_cb 68) 181 = .ok (.bipush 27, 2) by decide +kernel) (by decide +kernel) ?_
    refine lv_iadd hx hb (show decode (ee_cb 68) 183 = .ok (.iadd, 1) by decide +kernel) ?_
    refine lv_iconst (v := -1) hx hb (show decode (ee_cb 68) 184 = .ok (.iconst (-1), 1) by decide +kernel) (by decide +kernel) ?_
    rw [nI_add]
    refine va_iast hx hb hG.1 hP hD hS ka 0 (hw1 _) rfl (vp_in_nI (by omega) (by omega)) (show decode (ee_cb 68) 185 = .ok (.iastore, 1) by decide +kernel) (fun H locs hP hD hS => ?_)
    rw [nI_clamp (by omega), List.set_set] at hP hD
    refine lv_iconst (v := nI 0) hx hb (show decode (ee_cb 68) 186 = .ok (.iconst 0, 1) by decide +kernel) (by decide +kernel) ?_
    refine lv_istore (lv' := [(6, .int (nI 0)), (5, .int (nI i)), (0, .ref ax), (1, .int v1), (2, .int v2), (3, .int v3), (4, .int v4)]) hx hb (show decode (ee_cb 68) 187 = .ok (.istore 6, 2) by decide +kernel) hl (by decide) rfl (fun ls2 hl2 => ?_)
    refine ee_sta_I (t := i) (g := g) (by omega) hR hd0 hC hk hv0 hka ?_ 4 0 rfl _ H locs ls2 (fun j => ?_) hP hD hS hl2
    · intro gi3 H3 locs3 ls3 hgi3 hP3 hD3 hS3 hl3
      refine lv_iinc (v := nI (i + 1)) (lv' := [(5, .int (nI (i + 1))), (6, .int (nI 4)), (0, .ref ax), (1, .int v1), (2, .int v2), (3, .int v3), (4, .int v4)]) hx hb (show decode (ee_cb 68) 218 = .ok (.iinc 5 1, 3) by decide +kernel) hl3 (k := 1) rfl (nI_1 i) (by decide) rfl (fun ls4 hl4 => ?_)
      refine lv_goto (tgt := 138) hx hb (show decode (ee_cb 68) 221 = .ok (.goto (-83), 3) by decide +kernel) (by decide) ?_
      refine ih (i + 1) (by omega) gi3 H3 locs3 ls4 (fun j => ?_) hP3 hD3 hS3 (lv_sub hl4 [0, 2, 3, 4, 5, 6] rfl)
      rw [hgi3]
      by_cases hj2 : (470 ≤ j ∧ (j - 470) / 200 < i ∧ ((j - 470) % 200 = 20 ∨ (j - 470) % 200 = 25 ∨ (27 ≤ (j - 470) % 200 ∧ (j - 470) % 200 ≤ 31))) ∨ (j = 490 + 200 * i ∨ j = 495 + 200 * i ∨ (497 + 200 * i ≤ j ∧ j < 498 + 200 * i + (4)))
      · rw [if_pos hj2, if_pos (by omega)]
      · rw [if_neg hj2, if_neg (by omega)]
    · by_cases h3 : j = 470 + 200 * i + 27
      · rw [h3, pk_us, if_pos (by omega)]
      · rw [pk_un h3]
        by_cases h2 : j = 470 + 200 * i + 25
        · rw [h2, pk_us, if_pos (by omega)]
        · rw [pk_un h2]
          by_cases h1 : j = 470 + 200 * i + 20
          · rw [h1, pk_us, if_pos (by omega)]
          · rw [pk_un h1, hgi]
            by_cases hj2 : 470 ≤ j ∧ (j - 470) / 200 < i ∧ ((j - 470) % 200 = 20 ∨ (j - 470) % 200 = 25 ∨ (27 ≤ (j - 470) % 200 ∧ (j - 470) % 200 ≤ 31))
            · rw [if_pos hj2, if_pos (by omega)]
            · rw [if_neg hj2, if_neg (by omega)]
theorem ee_sta_all {d : Nat} (hR : d ≤ R.frames ∧ 40 * d ≤ R.locals) (hd0 : 0 < d) (hC : ee_C p s m args meth c D dA xa xt B 68) {ws : va_W} {k ka ax aa : Nat} {vs9 : List Value} {g : Nat → Int32} {v1 v2 v3 v4 : Int32} (hk : ws[k]? = some (ax, .inr (11, vs9))) (hv0 : vs9[0]? = some (.ref aa)) (hka : ws[ka]? = some (aa, .inl (dA 0, 7900, .inl g))) {H : Heap} {locs : List Loc} {ls : Array Slot} (hP : va_P D ee_cl ws H) (hD : va_D (fun q => B ≤ q) ws) (hS : va_S (fun q => B ≤ q) s.heap H locs) (hl : lv_has ls 7 [(0, .ref ax), (1, .int v1), (2, .int v2), (3, .int v3), (4, .int v4)]) (fin : ∀ (gi : Nat → Int32) (H : Heap) (locs : List Loc) (ls : Array Slot), (∀ j, gi j = if 470 ≤ j ∧ (j - 470) / 200 < 4 ∧ ((j - 470) % 200 = 20 ∨ (j - 470) % 200 = 25 ∨ (27 ≤ (j - 470) % 200 ∧ (j - 470) % 200 ≤ 31)) then -1 else if 444 ≤ j ∧ j < 444 + (24) then -1 else if 428 ≤ j ∧ j < 428 + (8) then -1 else if j = 3 then v4 else if j = 2 then v3 else if j = 1 then v2 else if j = 0 then v1 else if j < 1270 ∧ ¬((8 ≤ j ∧ j ≤ 10) ∨ (20 ≤ j ∧ j ≤ 419)) then 0 else g j) → va_P D ee_cl (ws.set ka (aa, .inl (dA 0, 7900, .inl gi))) H → va_D (fun q => B ≤ q) (ws.set ka (aa, .inl (dA 0, 7900, .inl gi))) → va_S (fun q => B ≤ q) s.heap H locs → W p l e R s m args below meth c H locs 0 0 Q (F0 m 224 ls [])) :
    W p l e R s m args below meth c H locs 0 0 Q (F0 m 0 ls []) := by
  obtain ⟨hx, hb, hml, hown, hts, hG, hB, -⟩ := id hC
  have hml7 : ee_ml 68 = 7 := by decide +kernel
  have hkk : k ≠ ka := fun z => by
    subst z
    rw [hk] at hka
    cases hka
  have hlen : ka < ws.length := (List.getElem?_eq_some_iff.mp hka).1
  have hw0 : ∀ f : Nat → Int32, (ws.set ka (aa, (.inl (dA 0, 7900, .inl f) : va_E)))[k]? = some (ax, .inr (11, vs9)) := fun f => by rw [List.getElem?_set_ne (fun z => hkk z.symm)]; exact hk
  have hw1 : ∀ f : Nat → Int32, (ws.set ka (aa, (.inl (dA 0, 7900, .inl f) : va_E)))[ka]? = some (aa, .inl (dA 0, 7900, .inl f)) := fun f => List.getElem?_set_self hlen
  have hself : ws.set ka (aa, .inl (dA 0, 7900, .inl g)) = ws := by
    apply List.ext_getElem?
    intro i
    by_cases hik : i = ka
    · subst hik
      rw [List.getElem?_set_self hlen, hka]
    · rw [List.getElem?_set_ne (fun z => hik z.symm)]
  refine lv_iconst (v := nI 0) hx hb (show decode (ee_cb 68) 0 = .ok (.iconst 0, 1) by decide +kernel) (by decide +kernel) ?_
  refine lv_istore (lv' := [(5, .int (nI 0)), (0, .ref ax), (1, .int v1), (2, .int v2), (3, .int v3), (4, .int v4)]) hx hb (show decode (ee_cb 68) 1 = .ok (.istore 5, 2) by decide +kernel) hl (by decide) rfl (fun ls hl => ?_)
  refine ee_sta_A hR hd0 hC hk hv0 hka ?_ 1270 0 rfl g H locs ls (fun j => by rw [if_neg (by omega)]) (by rw [hself]; exact hP) (by rw [hself]; exact hD) hS hl
  clear hP hD hS hl hself
  intro gA H locs ls hgA hP hD hS hl
  refine ee_sta_row (pc := 50) hC (hw0 _) hv0 hP (lv_at hl 1 rfl) (by decide +kernel) (by decide +kernel) ?_
  refine lv_iconst (v := nI 0) hx hb (show decode (ee_cb 68) 54 = .ok (.iconst 0, 1) by decide +kernel) (by decide +kernel) ?_
  refine lv_iload_n hx hb (show decode (ee_cb 68) 55 = .ok (.iload_n 1, 1) by decide +kernel) rfl (lv_at hl 2 rfl) ?_
  refine va_iast hx hb hG.1 hP hD hS ka 0 (hw1 _) rfl (vp_in_nI (by omega) (by omega)) (show decode (ee_cb 68) 56 = .ok (.iastore, 1) by decide +kernel) (fun H locs hP hD hS => ?_)
  rw [nI_clamp (by omega), List.set_set] at hP hD
  refine ee_sta_row (pc := 57) hC (hw0 _) hv0 hP (lv_at hl 1 rfl) (by decide +kernel) (by decide +kernel) ?_
  refine lv_iconst (v := nI 1) hx hb (show decode (ee_cb 68) 61 = .ok (.iconst 1, 1) by decide +kernel) (by decide +kernel) ?_
  refine lv_iload_n hx hb (show decode (ee_cb 68) 62 = .ok (.iload_n 2, 1) by decide +kernel) rfl (lv_at hl 3 rfl) ?_
  refine va_iast hx hb hG.1 hP hD hS ka 0 (hw1 _) rfl (vp_in_nI (by omega) (by omega)) (show decode (ee_cb 68) 63 = .ok (.iastore, 1) by decide +kernel) (fun H locs hP hD hS => ?_)
  rw [nI_clamp (by omega), List.set_set] at hP hD
  refine ee_sta_row (pc := 64) hC (hw0 _) hv0 hP (lv_at hl 1 rfl) (by decide +kernel) (by decide +kernel) ?_
  refine lv_iconst (v := nI 2) hx hb (show decode (ee_cb 68) 68 = .ok (.iconst 2, 1) by decide +kernel) (by decide +kernel) ?_
  refine lv_iload_n hx hb (show decode (ee_cb 68) 69 = .ok (.iload_n 3, 1) by decide +kernel) rfl (lv_at hl 4 rfl) ?_
  refine va_iast hx hb hG.1 hP hD hS ka 0 (hw1 _) rfl (vp_in_nI (by omega) (by omega)) (show decode (ee_cb 68) 70 = .ok (.iastore, 1) by decide +kernel) (fun H locs hP hD hS => ?_)
  rw [nI_clamp (by omega), List.set_set] at hP hD
  refine ee_sta_row (pc := 71) hC (hw0 _) hv0 hP (lv_at hl 1 rfl) (by decide +kernel) (by decide +kernel) ?_
  refine lv_iconst (v := nI 3) hx hb (show decode (ee_cb 68) 75 = .ok (.iconst 3, 1) by decide +kernel) (by decide +kernel) ?_
  refine lv_iload hx hb (show decode (ee_cb 68) 76 = .ok (.iload 4, 2) by decide +kernel) (lv_at hl 5 rfl) ?_
  refine va_iast hx hb hG.1 hP hD hS ka 0 (hw1 _) rfl (vp_in_nI (by omega) (by omega)) (show decode (ee_cb 68) 78 = .ok (.iastore, 1) by decide +kernel) (fun H locs hP hD hS => ?_)
  rw [nI_clamp (by omega), List.set_set] at hP hD
  refine lv_iconst (v := nI 0) hx hb (show decode (ee_cb 68) 79 = .ok (.iconst 0, 1) by decide +kernel) (by decide +kernel) ?_
  refine lv_istore (lv' := [(5, .int (nI 0)), (0, .ref ax), (1, .int v1), (2, .int v2), (3, .int v3), (4, .int v4)]) hx hb (show decode (ee_cb 68) 80 = .ok (.istore 5, 2) by decide +kernel) hl (by decide) rfl (fun ls hl => ?_)
  refine ee_sta_B (ws := (ws.set ka (aa, .inl (dA 0, 7900, .inl (upd (upd (upd (upd gA 0 v1) 1 v2) 2 v3) 3 v4))))) (g := (upd (upd (upd (upd gA 0 v1) 1 v2) 2 v3) 3 v4)) hR hd0 hC (hw0 _) hv0 (hw1 _) ?_ 8 0 rfl (upd (upd (upd (upd gA 0 v1) 1 v2) 2 v3) 3 v4) H locs ls (fun j => by rw [if_neg (by omega)]) (by rw [List.set_set]; exact hP) (by rw [List.set_set]; exact hD) hS hl
  clear hP hD hS hl
  intro gB H locs ls hgB hP hD hS hl
  rw [List.set_set] at hP hD
  refine lv_iconst (v := nI 0) hx hb (show decode (ee_cb 68) 107 = .ok (.iconst 0, 1) by decide +kernel) (by decide +kernel) ?_
  refine lv_istore (lv' := [(5, .int (nI 0)), (0, .ref ax), (1, .int v1), (2, .int v2), (3, .int v3), (4, .int v4)]) hx hb (show decode (ee_cb 68) 108 = .ok (.istore 5, 2) by decide +kernel) hl (by decide) rfl (fun ls hl => ?_)
  refine ee_sta_C (ws := (ws.set ka (aa, .inl (dA 0, 7900, .inl gB)))) (g := gB) hR hd0 hC (hw0 _) hv0 (hw1 _) ?_ 24 0 rfl gB H locs ls (fun j => by rw [if_neg (by omega)]) (by rw [List.set_set]; exact hP) (by rw [List.set_set]; exact hD) hS hl
  clear hP hD hS hl
  intro gC H locs ls hgC hP hD hS hl
  rw [List.set_set] at hP hD
  refine lv_iconst (v := nI 0) hx hb (show decode (ee_cb 68) 135 = .ok (.iconst 0, 1) by decide +kernel) (by decide +kernel) ?_
  refine lv_istore (lv' := [(5, .int (nI 0)), (0, .ref ax), (1, .int v1), (2, .int v2), (3, .int v3), (4, .int v4)]) hx hb (show decode (ee_cb 68) 136 = .ok (.istore 5, 2) by decide +kernel) hl (by decide) rfl (fun ls hl => ?_)
  refine ee_sta_D (ws := (ws.set ka (aa, .inl (dA 0, 7900, .inl gC)))) (g := gC) hR hd0 hC (hw0 _) hv0 (hw1 _) ?_ 4 0 rfl gC H locs ls (fun j => by rw [if_neg (by omega)]) (by rw [List.set_set]; exact hP) (by rw [List.set_set]; exact hD) hS hl
  clear hP hD hS hl
  intro gD H locs ls hgD hP hD hS hl
  rw [List.set_set] at hP hD
  refine fin gD H locs ls (fun j => ?_) hP hD hS
  rw [hgD, hgC, hgB]
  by_cases h3 : j = 3
  · rw [h3, pk_us]
    rfl
  · rw [pk_un h3, if_neg h3]
    by_cases h2 : j = 2
    · rw [h2, pk_us]
      rfl
    · rw [pk_un h2, if_neg h2]
      by_cases h1 : j = 1
      · rw [h1, pk_us]
        rfl
      · rw [pk_un h1, if_neg h1]
        by_cases h0 : j = 0
        · rw [h0, pk_us]
          rfl
        · rw [pk_un h0, if_neg h0, hgA]
end EST
/-! what it leaves -/
theorem ee_nbf {a b : Nat} (h : ¬ a = b) : Nat.beq a b = false := by
  cases hb : Nat.beq a b with
  | false => rfl
  | true => exact absurd (Nat.eq_of_beq_eq_true hb) h
def ee_stI (j : Nat) : Int × Int := bif Nat.beq j (nat_lit 0) || Nat.beq j (nat_lit 3) then (1, 3) else bif Nat.beq j (nat_lit 1) then (1, 4) else bif Nat.beq j (nat_lit 2) then (1, 8) else bif decide (470 ≤ j ∧ (j - 470) / 200 < 4 ∧ ((j - 470) % 200 = 20 ∨ (j - 470) % 200 = 25 ∨ (27 ≤ (j - 470) % 200 ∧ (j - 470) % 200 ≤ 31))) || (decide (444 ≤ j ∧ j < 444 + (24)) || decide (428 ≤ j ∧ j < 428 + (8))) then (-1, -1) else (0, 0)
def ee_stk (j : Nat) : Bool := decide (((8 ≤ j ∧ j ≤ 10) ∨ (20 ≤ j ∧ j ≤ 419)))
theorem ee_sta_iv {g gi : Nat → Int32} {v1 v2 v3 v4 : Int32} (hgi : ∀ j, gi j = if 470 ≤ j ∧ (j - 470) / 200 < 4 ∧ ((j - 470) % 200 = 20 ∨ (j - 470) % 200 = 25 ∨ (27 ≤ (j - 470) % 200 ∧ (j - 470) % 200 ≤ 31)) then -1 else if 444 ≤ j ∧ j < 444 + (24) then -1 else if 428 ≤ j ∧ j < 428 + (8) then -1 else if j = 3 then v4 else if j = 2 then v3 else if j = 1 then v2 else if j = 0 then v1 else if j < 1270 ∧ ¬((8 ≤ j ∧ j ≤ 10) ∨ (20 ≤ j ∧ j ≤ 419)) then 0 else g j) (b1 : 1 ≤ v1.toInt ∧ v1.toInt ≤ 3) (b2 : 1 ≤ v2.toInt ∧ v2.toInt ≤ 4) (b3 : 1 ≤ v3.toInt ∧ v3.toInt ≤ 8) (b4 : 1 ≤ v4.toInt ∧ v4.toInt ≤ 3) {j : Nat} (hj : j < 1270) (hk : ee_stk j = false) : (ee_stI j).1 ≤ (gi j).toInt ∧ (gi j).toInt ≤ (ee_stI j).2 := by
  have hk' : ¬((8 ≤ j ∧ j ≤ 10) ∨ (20 ≤ j ∧ j ≤ 419)) := of_decide_eq_false hk
  have m1 : (-1 : Int32).toInt = -1 := by decide +kernel
  have m0 : (0 : Int32).toInt = 0 := by decide +kernel
  unfold ee_stI
  rw [hgi]
  by_cases h0 : j = 0
  · subst h0
    exact b1
  by_cases h1 : j = 1
  · subst h1
    exact b2
  by_cases h2 : j = 2
  · subst h2
    exact b3
  by_cases h3 : j = 3
  · subst h3
    exact b4
  rw [ee_cf (show (Nat.beq j (nat_lit 0) || Nat.beq j (nat_lit 3)) = false from by
    rw [Bool.or_eq_false_iff]
    exact ⟨ee_nbf h0, ee_nbf h3⟩), ee_cf (show Nat.beq j (nat_lit 1) = false from ee_nbf h1), ee_cf (show Nat.beq j (nat_lit 2) = false from ee_nbf h2)]
  by_cases hD : 470 ≤ j ∧ (j - 470) / 200 < 4 ∧ ((j - 470) % 200 = 20 ∨ (j - 470) % 200 = 25 ∨ (27 ≤ (j - 470) % 200 ∧ (j - 470) % 200 ≤ 31))
  · rw [if_pos hD, ee_ct (by rw [decide_eq_true hD, Bool.true_or]), m1]
    exact ⟨Int.le_refl _, Int.le_refl _⟩
  · rw [if_neg hD]
    by_cases hC : 444 ≤ j ∧ j < 444 + (24)
    · rw [if_pos hC, ee_ct (by rw [decide_eq_true hC, Bool.true_or, Bool.or_true]), m1]
      exact ⟨Int.le_refl _, Int.le_refl _⟩
    · rw [if_neg hC]
      by_cases hB : 428 ≤ j ∧ j < 428 + (8)
      · rw [if_pos hB, ee_ct (by rw [decide_eq_true hB, Bool.or_true, Bool.or_true]), m1]
        exact ⟨Int.le_refl _, Int.le_refl _⟩
      · rw [if_neg hB, ee_cf (by rw [decide_eq_false hB, decide_eq_false hC, decide_eq_false hD, Bool.or_false, Bool.or_false]), if_neg h3, if_neg h2, if_neg h1, if_neg h0, if_pos ⟨hj, hk'⟩, m0]
        exact ⟨Int.le_refl _, Int.le_refl _⟩
theorem ee_sta_out {g gi : Nat → Int32} {v1 v2 v3 v4 : Int32} (hgi : ∀ j, gi j = if 470 ≤ j ∧ (j - 470) / 200 < 4 ∧ ((j - 470) % 200 = 20 ∨ (j - 470) % 200 = 25 ∨ (27 ≤ (j - 470) % 200 ∧ (j - 470) % 200 ≤ 31)) then -1 else if 444 ≤ j ∧ j < 444 + (24) then -1 else if 428 ≤ j ∧ j < 428 + (8) then -1 else if j = 3 then v4 else if j = 2 then v3 else if j = 1 then v2 else if j = 0 then v1 else if j < 1270 ∧ ¬((8 ≤ j ∧ j ≤ 10) ∨ (20 ≤ j ∧ j ≤ 419)) then 0 else g j) {j : Nat} (hj : ee_stk j = true ∨ 1270 ≤ j) : gi j = g j := by
  have hk' : ((8 ≤ j ∧ j ≤ 10) ∨ (20 ≤ j ∧ j ≤ 419)) ∨ 1270 ≤ j := hj.imp of_decide_eq_true id
  rw [hgi, if_neg (by omega), if_neg (by omega), if_neg (by omega), if_neg (by omega), if_neg (by omega), if_neg (by omega), if_neg (by omega), if_neg (by omega)]
theorem ee_stT : ((List.range 1270).all fun j => ee_stk j || (match ab_ke 37 j with
    | .inl q => decide (q.1 ≤ (ee_stI j).1) && decide ((ee_stI j).2 ≤ q.2)
    | .inr _ => false)) = true := by decide +kernel
def ee_stc (j : Nat) : Bool := decide (j < 1270) && !ee_stk j
def ee_stC (cc : ab_Cl) : Bool := (cc.1.any fun gg => Nat.beq gg.1.1 (nat_lit 1) && (ee_stc gg.1.2.1 && (decide ((ee_stI gg.1.2.1).2 < gg.2.1) || decide (gg.2.2 < (ee_stI gg.1.2.1).1)))) ||
  (Nat.beq cc.2.1.2.1 (nat_lit 1) && (ee_stc cc.2.1.2.2.1 && (decide (cc.2.1.1 = 1) && ((decide (cc.2.2.1.1 = 0) && (decide (cc.2.2.2.1 ≤ (ee_stI cc.2.1.2.2.1).1) && decide ((ee_stI cc.2.1.2.2.1).2 ≤ cc.2.2.2.2))) ||
    (decide (cc.2.2.1.1 = 1) && (Nat.beq cc.2.2.1.2.1 (nat_lit 1) && (ee_stc cc.2.2.1.2.2.1 && (decide (cc.2.2.2.1 ≤ (ee_stI cc.2.1.2.2.1).1 - (ee_stI cc.2.2.1.2.2.1).2) && decide ((ee_stI cc.2.1.2.2.1).2 - (ee_stI cc.2.2.1.2.2.1).1 ≤ cc.2.2.2.2)))))))))
theorem ee_stCa : (ab_c37.all ee_stC) = true := by decide +kernel
theorem ee_stR : ((List.range 4).all fun t => (List.range 80).all fun x => ee_stc (540 + 200 * t + x) && (decide ((ee_stI (540 + 200 * t + x)).1 = 0) && decide ((ee_stI (540 + 200 * t + x)).2 = 0))) = true := by decide +kernel
theorem ee_stN : (ab_cn.all fun j => ee_stc j && (decide ((ee_stI j).1 = 0) && decide ((ee_stI j).2 = 0))) = true := by decide +kernel
theorem ee_sta_gd {gi : Nat → Int32} (hiv : ∀ j, j < 1270 → ee_stk j = false → (ee_stI j).1 ≤ (gi j).toInt ∧ (gi j).toInt ≤ (ee_stI j).2) (hkt : ∀ j, j < 1580 → (ee_stk j = true ∨ 1270 ≤ j) → ab_tv [] [] (.int (gi j)) (ab_ke 37 j)) : ab_gd gi := by
  have hst : ∀ j, ee_stc j = true → (ee_stI j).1 ≤ (gi j).toInt ∧ (gi j).toInt ≤ (ee_stI j).2 := fun j hj => by
    unfold ee_stc at hj
    rw [Bool.and_eq_true] at hj
    exact hiv j (of_decide_eq_true hj.1) (by simpa using hj.2)
  have hst2 : ∀ j, ee_stc j = true → j < 7900 := fun j hj => by
    unfold ee_stc at hj
    rw [Bool.and_eq_true] at hj
    have := of_decide_eq_true hj.1
    omega
  refine ⟨fun j hj => ?_, fun cA cc hc => ?_, fun t ht l9 hl => ?_⟩
  · by_cases hj2 : ee_stk j = true ∨ 1270 ≤ j
    · exact hkt j hj hj2
    · have h1 : ee_stk j = false := by
        cases h9 : ee_stk j with
        | false => rfl
        | true => exact absurd (Or.inl h9) hj2
      have h2 : j < 1270 := by
        have := fun z => hj2 (Or.inr z)
        omega
      have h3 := List.all_eq_true.mp ee_stT j (List.mem_range.mpr h2)
      rw [h1, Bool.false_or] at h3
      have h4 := hiv j h2 h1
      cases hq : ab_ke 37 j with
      | inr z => rw [hq] at h3; cases h3
      | inl q =>
        rw [hq] at h3
        have h3' : (decide (q.1 ≤ (ee_stI j).1) && decide ((ee_stI j).2 ≤ q.2)) = true := h3
        rw [Bool.and_eq_true] at h3'
        have h5 := of_decide_eq_true h3'.1
        have h6 := of_decide_eq_true h3'.2
        exact ⟨gi j, rfl, by omega, by omega⟩
  · have h1 := List.all_eq_true.mp ee_stCa cc hc
    unfold ee_stC at h1
    rw [Bool.or_eq_true] at h1
    intro hgu
    have hcr : ∀ rr : ab_R, rr.1 = 1 → rr.2.1 < 7900 → ab_cr [] (.inl (cA, 7900, .inl gi)) rr = some (gi rr.2.1).toInt := fun rr hr1 hr2 => by
      obtain ⟨t1, t2, t3, t4⟩ := rr
      have e1 : t1 = 1 := hr1
      subst e1
      show (if t2 < 7900 then some (gi t2).toInt else none) = some (gi t2).toInt
      exact if_pos hr2
    rcases h1 with h1 | h1
    · exfalso
      obtain ⟨gg, hg1, hg2⟩ := List.any_eq_true.mp h1
      obtain ⟨x, hx1, hx2, hx3⟩ := hgu gg hg1
      rw [Bool.and_eq_true, Bool.and_eq_true, Bool.or_eq_true] at hg2
      have hb := hst _ hg2.2.1
      rw [hcr gg.1 (Nat.eq_of_beq_eq_true hg2.1) (hst2 _ hg2.2.1)] at hx1
      have hx1' := Option.some.inj hx1
      rcases hg2.2.2 with h9 | h9
      · have := of_decide_eq_true h9
        omega
      · have := of_decide_eq_true h9
        omega
    · rw [Bool.and_eq_true, Bool.and_eq_true, Bool.and_eq_true, Bool.or_eq_true] at h1
      obtain ⟨h2, h3, h4, h5⟩ := h1
      have hb := hst _ h3
      have e1 := of_decide_eq_true h4
      have c1 := hcr cc.2.1.2 (Nat.eq_of_beq_eq_true h2) (hst2 _ h3)
      rcases h5 with h5 | h5
      · rw [Bool.and_eq_true, Bool.and_eq_true] at h5
        have e2 := of_decide_eq_true h5.1
        have e3 := of_decide_eq_true h5.2.1
        have e4 := of_decide_eq_true h5.2.2
        refine ⟨_, 0, c1, Or.inl e2, ?_, ?_⟩
        · rw [e1, e2]; omega
        · rw [e1, e2]; omega
      · rw [Bool.and_eq_true, Bool.and_eq_true, Bool.and_eq_true, Bool.and_eq_true] at h5
        obtain ⟨h6, h7, h8, h9, h10⟩ := h5
        have e2 := of_decide_eq_true h6
        have e3 := of_decide_eq_true h9
        have e4 := of_decide_eq_true h10
        have hb2 := hst _ h8
        refine ⟨_, _, c1, Or.inr (hcr cc.2.2.1.2 (Nat.eq_of_beq_eq_true h7) (hst2 _ h8)), ?_, ?_⟩
        · rw [e1, e2]; omega
        · rw [e1, e2]; omega
  · have hz : ∀ x, x < 80 → gi (540 + 200 * t + x) = 0 := fun x hx => by
      have h1 := List.all_eq_true.mp (List.all_eq_true.mp ee_stR t (List.mem_range.mpr ht)) x (List.mem_range.mpr hx)
      rw [Bool.and_eq_true, Bool.and_eq_true] at h1
      have h2 := hst _ h1.1
      have h3 := of_decide_eq_true h1.2.1
      have h4 := of_decide_eq_true h1.2.2
      apply Int32.toInt_inj.mp
      rw [show (0 : Int32).toInt = 0 by decide +kernel]
      omega
    have z0 := hz (4 * l9) (by omega)
    have z1 := hz (4 * l9 + 1) (by omega)
    have z2 := hz (4 * l9 + 2) (by omega)
    have z3 := hz (4 * l9 + 3) (by omega)
    rw [← Nat.add_assoc] at z1 z2 z3
    unfold ab_row7
    rw [z0, z1, z2, z3]
    decide +kernel
theorem ee_sta_cn {gi : Nat → Int32} (hiv : ∀ j, j < 1270 → ee_stk j = false → (ee_stI j).1 ≤ (gi j).toInt ∧ (gi j).toInt ≤ (ee_stI j).2) : ∀ cc ∈ ab_cn, (gi cc).toInt = 0 := fun cc hcc => by
  have h1 := List.all_eq_true.mp ee_stN cc hcc
  rw [Bool.and_eq_true, Bool.and_eq_true] at h1
  have h2 := h1.1
  unfold ee_stc at h2
  rw [Bool.and_eq_true] at h2
  have h5 := hiv cc (of_decide_eq_true h2.1) (by simpa using h2.2)
  have h3 := of_decide_eq_true h1.2.1
  have h4 := of_decide_eq_true h1.2.2
  omega
theorem ab_sta_ct {l : Launch} {D : va_G} {dA : Nat → ClassId} {xa : List Nat} {xt : ee_X} {B : Nat} {iv : List (Int × Int)} {mask X : Nat} (hmask : ab_wm mask 37 = true) (hi1 : ab_bd iv (1, 1, 0) = some (1, 3)) (hi2 : ab_bd iv (2, 1, 0) = some (1, 4)) (hi3 : ab_bd iv (3, 1, 0) = some (1, 8)) (hi4 : ab_bd iv (4, 1, 0) = some (1, 3)) :
    ab_CT ab_cls l D dA xa xt B ((68, 2), (0, 0), ([.inr (.inl 1), .inl (1, 1, 0), .inl (2, 1, 0), .inl (3, 1, 0), .inl (4, 1, 0)], (iv, [], [38, 37], [(0, (0, 0, 0, 0), .inr (.inl 3)), (1, (6, 0, 0, 0), .inl (0, 0, 0))], [])), [(none, (iv, [], [38, 37], [(0, (0, 0, 0, 0), .inr (.inl 3)), (1, (6, 0, 0, 0), .inl (0, 0, 0))], []), 0, 0)], mask, X) := by
  intro d hd ke ks0 ws0 rv0 sv0 vs0 hG0 hA0 h29
  dsimp only at hd hG0 hA0 ⊢
  match vs0, hA0 with
  | [v0, v1, v2, v3, v4], ⟨o0, ⟨x1, e1, hx1⟩, ⟨x2, e2, hx2⟩, ⟨x3, e3, hx3⟩, ⟨x4, e4, hx4⟩, _⟩ =>
    subst e1; subst e2; subst e3; subst e4
    have bnd : ∀ {x : Int32} {f : ab_L} {q : Int × Int}, ab_ev rv0 f = some x.toInt → ab_bd iv f = some q → q.1 ≤ x.toInt ∧ x.toInt ≤ q.2 := fun hx hq => by
      obtain ⟨y, h1, h2, h3⟩ := ab_ev_bd hG0.1 hq
      rw [hx] at h1
      cases h1
      exact ⟨h2, h3⟩
    have b1 := bnd hx1 hi1
    have b2 := bnd hx2 hi2
    have b3 := bnd hx3 hi3
    have b4 := bnd hx4 hi4
    obtain ⟨q0, hq0, rfl⟩ := ab_nnul (z := 0) rfl o0
    have hq0' : sv0[0]? = some q0 := hq0
    obtain ⟨q0', e0, i1, i2, i3⟩ := hG0.2.2.1.2 0 38 rfl
    rw [hq0'] at i1
    cases i1
    obtain ⟨q1, e1, j1, j2, j3⟩ := hG0.2.2.1.2 1 37 rfl
    obtain ⟨a8, e8, u1, u2⟩ := hG0.2.2.2.2.1.2 _ 37 j2
    rw [j3] at u1
    cases u1
    obtain ⟨g, rfl, htyp⟩ : ∃ g : Nat → Int32, e1 = .inl (dA 0, 7900, .inl g) ∧ ∀ j, j < 7900 → ab_tv ks0 (ws0.map (·.1)) (.int (g j)) (ab_ke 37 j) := by
      rcases u2.2.1 _ _ _ ab_ka37 with ⟨-, n9, g, rfl, h5, h6, h7⟩ | ⟨h9, -⟩ | ⟨h9, -⟩
      · have e9 : n9 = 7900 := by omega
        subst e9
        exact ⟨g, rfl, h7⟩
      · cases h9
      · omega
    obtain ⟨a9, e9, r1, r2⟩ := hG0.2.2.2.2.1.2 _ 38 i2
    rw [i3] at r1
    cases r1
    obtain ⟨ts9, hts9⟩ : ∃ ts9, ab_ko 38 = some (11, ts9) := ⟨_, rfl⟩
    obtain ⟨vs9, rfl, hvl, -⟩ := r2.1 _ _ hts9
    have hv9 : vs9[0]? = some (.ref q1.2) := by
      obtain ⟨qa, ea, ia, va, f1, f2, f3, f4, f5⟩ := hG0.2.2.2.1 _ List.mem_cons_self
      have f1' : sv0[0]? = some qa := f1
      rw [hq0'] at f1'
      cases f1'
      rw [i3] at f2
      cases f2
      have f3' : some ((0 : Nat) : Int) = some ia := f3
      cases f3'
      have f4' : vs9[((0 : Nat) : Int).toNat]? = some va := f4
      obtain ⟨qb, b1, rfl⟩ := ab_nnul (z := 2) rfl f5
      have b1' : sv0[1]? = some qb := b1
      rw [j1] at b1'
      cases b1'
      exact f4'
    have hphi : ∀ gi : Nat → Int32, ab_ph ke ks0 (ws0.set q1.1 (q1.2, .inl (dA 0, 7900, .inl gi))) = ab_ph ke ks0 ws0 := fun gi => ab_ph_st j3
    refine ct_met (d := d) (c' := 0 + (6144 - ab_ph ke ks0 ws0 / 1024)) (s' := 0 + (6291456 - ab_ph ke ks0 ws0)) (by decide +kernel) (by decide +kernel) ?_ ?_
    · rintro vs ws ⟨rfl, rfl⟩
      exact (by decide : (5 : Nat) ≤ 7)
    · rintro p e s m vs below meth c ws ls hC ⟨rfl, rfl⟩ hP hD hS hlv
      have hl5 : lv_has ls 7 [(0, .ref q0.2), (1, .int x1), (2, .int x2), (3, .int x3), (4, .int x4)] := hlv
      refine ee_sta_all (d := d) (g := g) ⟨Nat.le_refl _, Nat.le_refl _⟩ (by omega) hC i3 hv9 j3 hP hD hS hl5 ?_
      intro gi H1 locs1 ls1 hgi hP1 hD1 hS1
      have hlt : q1.1 < ws.length := (List.getElem?_eq_some_iff.mp j3).1
      have hst : ab_px (sv0, (ks0, ws), ab_wm mask, ke, X, ab_ph ke ks0 ws) ks0 ws sv0 := ⟨List.prefix_refl sv0, ⟨ab_kp_rf, fun k κ q _ h2 => Or.inl h2, h29⟩, Nat.le_refl _⟩
      have hiv := fun j (hj : j < 1270) (hk : ee_stk j = false) => ee_sta_iv hgi b1 b2 b3 b4 hj hk
      have hgn : ab_gd gi := ee_sta_gd hiv (fun j hj hk => by
        rw [ee_sta_out hgi hk]
        exact ab_tv_i (htyp j (by omega)))
      have hset : (ws.set q1.1 (q1.2, (.inl (dA 0, 7900, .inl gi) : va_E)))[q1.1]? = some (q1.2, .inl (dA 0, 7900, .inl gi)) := List.getElem?_set_self hlt
      have hcell : ab_cell dA ks0 (ws.map (·.1)) 37 (.inl (dA 0, 7900, .inl gi)) := by
        refine ⟨fun ci ts h9 => (by rw [ab_ko37] at h9; cases h9), fun t9 lo9 hi9 h9 => ?_, fun h9 => absurd h9 (by decide), fun _ => ⟨_, 7900, gi, rfl, hgn.2.2⟩⟩
        rw [ab_ka37] at h9
        cases h9
        refine Or.inl ⟨Or.inl rfl, 7900, gi, rfl, by decide, by decide, fun i hi => ?_⟩
        by_cases hi5 : i < 1580
        · exact ab_tv_i (hgn.1 i hi5)
        · have e9 : ab_ke 37 i = .inl (-2147483648, 2147483647) := by
            show ab_all i = _
            unfold ab_all
            rw [ee_cf (by
              cases hz : Nat.blt i (nat_lit 1580) with
              | false => rfl
              | true =>
                have h8 : i < 1580 := Nat.le_of_ble_eq_true hz
                exact absurd h8 hi5)]
          rw [e9]
          exact ⟨gi i, rfl, (ab_i32 _).1, (ab_i32 _).2⟩
      have hne : q0.1 ≠ q1.1 := fun z => by
        rw [z] at i3
        have h9 := (Prod.mk.inj (Option.some.inj (i3.symm.trans j3))).2
        cases h9
      have hG1 : ab_G ab_cls dA xa ks0 (ws.set q1.1 (q1.2, .inl (dA 0, 7900, .inl gi))) rv0 sv0 (iv, [], [38, 37], [(0, (0, 0, 0, 0), .inr (.inl 3)), (1, (6, 0, 0, 0), .inl (0, 0, 0))], []) := by
        refine ⟨hG0.1, hG0.2.1, ab_Kn_set hG0.2.2.1 j3, fun g9 h9 => ?_, ab_TW_arr hG0.2.2.2.2.1 j3 j2 hcell, ab_CL_w hG0.2.2.2.2.2 ab_hcok hG0.2.2.2.2.1 hD j3 j2 (by decide) (fun cc hc => ab_hd_blk (ws := []) (f := gi) (fun _ _ => rfl) (by rw [← ab_cls37]; exact hc) (hgn.2.1 _ cc (by rw [← ab_cls37]; exact hc)))⟩
        rcases List.mem_cons.mp h9 with rfl | h9
        · obtain ⟨qa, ea, ia, va, f1, f2, f3, f4, f5⟩ := hG0.2.2.2.1 _ List.mem_cons_self
          have f1' : sv0[0]? = some qa := f1
          rw [hq0'] at f1'
          cases f1'
          refine ⟨q0, ea, ia, va, hq0', ?_, f3, f4, f5⟩
          rw [List.getElem?_set_ne (fun z => hne z.symm)]
          exact f2
        · rw [List.mem_singleton.mp h9]
          obtain ⟨qa, ea, ia, va, f1, f2, f3, f4, f5⟩ := hG0.2.2.2.1 _ (List.mem_cons_of_mem _ List.mem_cons_self)
          have f1' : sv0[1]? = some qa := f1
          rw [j1] at f1'
          cases f1'
          rw [j3] at f2
          cases f2
          obtain ⟨⟨cA, n9, f9, h8, h7⟩, h6⟩ := ab_rd_q2 (t := 3) f4
          cases h8
          refine ⟨q1, _, ia, va, j1, hset, f3, ?_, f5⟩
          rw [h6]
          refine ab_rd_q (t := 3) ⟨dA 0, 7900, gi, rfl, rfl, fun b hb5 cc hcc => ?_⟩
          by_cases hb0 : b = 0
          · subst hb0
            have h5 := h7.2 0 (by omega) cc hcc
            have h4 := ee_sta_cn hiv cc hcc
            rw [show 1580 * 0 + cc = cc by omega, h4]
            exact ⟨Int.le_refl _, by omega⟩
          · rw [ee_sta_out hgi (Or.inr (by omega))]
            exact h7.2 b hb5 cc hcc
      have hpx : ab_px (sv0, (ks0, ws), ab_wm mask, ke, X, ab_ph ke ks0 ws) ks0 (ws.set q1.1 (q1.2, .inl (dA 0, 7900, .inl gi))) sv0 := ab_px_set hst j3 j2 hmask (ab_sm_in (fun _ i hi => hi.elim (fun hi => ee_sta_out hgi (Or.inr (by have := hi.1; omega))) (fun hi => ee_sta_out hgi (Or.inl (by rw [hi.1]; rfl))))) (hphi gi)
      refine sm_53 (y := 68) (pc := 224) (a := 0) (b := 0) (n := 1) (by decide +kernel) hC (by decide +kernel) (by decide +kernel) hP1 hD1 hS1 ?_
      refine ⟨_, ks0, rv0, sv0, List.mem_cons_self, List.prefix_refl rv0, hpx, hG1, trivial, ?_, ?_⟩
      · rw [hphi gi]
        exact (by omega : (0 : Nat) = 0 + (ab_ph ke ks0 ws / 1024 - ab_ph ke ks0 ws / 1024))
      · rw [hphi gi]
        exact (by omega : (0 : Nat) = 0 + (ab_ph ke ks0 ws - ab_ph ke ks0 ws))
def kk_68_0 : ab_K := ((nat_lit 68, nat_lit 2), (nat_lit 0, nat_lit 0), ([.inr (.inl (nat_lit 1)), .inl (nat_lit 1, .ofNat (nat_lit 1), .ofNat (nat_lit 0)), .inl (nat_lit 2, .ofNat (nat_lit 1), .ofNat (nat_lit 0)), .inl (nat_lit 3, .ofNat (nat_lit 1), .ofNat (nat_lit 0)), .inl (nat_lit 4, .ofNat (nat_lit 1), .ofNat (nat_lit 0))], ([(.ofNat (nat_lit 0), .ofNat (nat_lit 8990000)), (.ofNat (nat_lit 1), .ofNat (nat_lit 3)), (.ofNat (nat_lit 1), .ofNat (nat_lit 4)), (.ofNat (nat_lit 1), .ofNat (nat_lit 8)), (.ofNat (nat_lit 1), .ofNat (nat_lit 3))], [], [nat_lit 38, nat_lit 37], [(nat_lit 0, (nat_lit 0, nat_lit 0, .ofNat (nat_lit 0), .ofNat (nat_lit 0)), .inr (.inl (nat_lit 3))), (nat_lit 1, (nat_lit 6, nat_lit 0, .ofNat (nat_lit 0), .ofNat (nat_lit 0)), .inl (nat_lit 0, .ofNat (nat_lit 0), .ofNat (nat_lit 0)))], [])), [(none, ([(.ofNat (nat_lit 0), .ofNat (nat_lit 8990000)), (.ofNat (nat_lit 1), .ofNat (nat_lit 3)), (.ofNat (nat_lit 1), .ofNat (nat_lit 4)), (.ofNat (nat_lit 1), .ofNat (nat_lit 8)), (.ofNat (nat_lit 1), .ofNat (nat_lit 3))], [], [nat_lit 38, nat_lit 37], [(nat_lit 0, (nat_lit 0, nat_lit 0, .ofNat (nat_lit 0), .ofNat (nat_lit 0)), .inr (.inl (nat_lit 3))), (nat_lit 1, (nat_lit 6, nat_lit 0, .ofNat (nat_lit 0), .ofNat (nat_lit 0)), .inl (nat_lit 0, .ofNat (nat_lit 0), .ofNat (nat_lit 0)))], []), nat_lit 0, nat_lit 0)], nat_lit 137438953472, nat_lit 147573917405304324126)
theorem kk_68_0_t {l : Launch} {D : va_G} {dA : Nat → ClassId} {xa : List Nat} {xt : ee_X} {B : Nat} (_ : xt[1]? = some (some ab_rnd)) : ab_CT ab_cls l D dA xa xt B kk_68_0 := ab_sta_ct (by decide +kernel) (by decide +kernel) (by decide +kernel) (by decide +kernel) (by decide +kernel)
