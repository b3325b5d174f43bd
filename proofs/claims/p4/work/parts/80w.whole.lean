/-! ===== what holds at the law's entry, in the engine's words ===== -/
def ee_rnd : List Int32 := [0, 3, 4, 0, 3, 5, 0, 3, 6, 7, 0, 3, 1, 3, 8, 2, 3, 9, 10, 11]
theorem ee_rnd_in : ∀ i, i < 20 → ∃ q, ab_rnd[i]? = some q ∧ ee_z (ee_rnd.getD i 0) = q.1 ∧ q.1 = q.2 := by
  intro i hi
  have h : ∀ i, i < 20 → ab_rnd[i]? = some (ee_z (ee_rnd.getD i 0), ee_z (ee_rnd.getD i 0)) := by decide +kernel
  exact ⟨_, h i hi, rfl, rfl⟩
theorem ee_tbl_nest : ∀ w ∈ ee_nest, w ∈ lw_tbl ∧ w.onTables = true := by decide +kernel
theorem ee_tbl_ao : ∀ C ∈ ee_ao, Cond.arrayOver (.object C) ∈ lw_tbl := by decide +kernel
theorem ee_flat_r1 : Cond.arrayOf (.static "StoreBufferHeap$Collector" "ROUND" "[I") .int ∈ flatC (Jvm.Cond.and given_1 narrow_1) ∧ Cond.eq (.length (.static "StoreBufferHeap$Collector" "ROUND" "[I")) (.int (Int32.ofNat 20)) ∈ flatC (Jvm.Cond.and given_1 narrow_1) := by decide +kernel
theorem ee_flat_r2 : ∀ j, j < 20 → Cond.eq (.elem (.static "StoreBufferHeap$Collector" "ROUND" "[I") (.int (Int32.ofNat j))) (.int (ee_rnd.getD j 0)) ∈ flatC (Jvm.Cond.and given_1 narrow_1) := by decide +kernel
theorem ee_tbl_r : Cond.laysStatic "StoreBufferHeap$Collector" "ROUND" "[I" ∈ lw_tbl ∧ Cond.initialized "StoreBufferHeap$Collector" ∈ lw_tbl := by decide +kernel
theorem ee_good_in : ∀ w ∈ ee_good, w ∈ lw_tbl := fun w hw => (List.mem_filter.mp hw).1
theorem ee_arr1 {args : Array Value} {s : State} {ty : FieldType} (h : (Cond.arrayClass ty).before args s = true) : ∃ cA, ArrOfT s cA ty ∧ s.vm.findClass ("[" ++ ty.toString) = some cA := by
  obtain ⟨cA, kA, comp, h1, h2, h3⟩ := Cond.arrayClass_spec h
  exact ⟨cA, fun n z => ⟨fun k h => (by cases h), kA, h2, comp, h3⟩, h1⟩
theorem ee_arr2 {args : Array Value} {s : State} {C : String} (h : (Cond.arrayOver (.object C)).before args s = true) : ∃ cA, ArrOfT s cA (.object C) ∧ va_RA s cA (.object C) := by
  obtain ⟨comp, cA, kA, h1, h2, h3, h4, h5⟩ := Cond.arrayOver_spec h
  exact ⟨cA, fun n z => ⟨fun k h => (by cases h), kA, h3, comp, h4⟩, kA, comp, h3, h4, h1, h5⟩
theorem ee_tbl_cas : Cond.castable "[I" "java/lang/Cloneable" ∈ lw_tbl ∧ (Cond.castable "[I" "java/lang/Cloneable").onTables = true := by decide +kernel
theorem ee_tbl_zs : Cond.laysStatic "java/lang/String" "COMPACT_STRINGS" "Z" ∈ lw_tbl ∧ Cond.initialized "java/lang/String" ∈ lw_tbl ∧ Cond.laysStatic "jdk/internal/util/Preconditions" "SIOOBE_FORMATTER" "Ljava/util/function/BiFunction;" ∈ lw_tbl ∧ Cond.initialized "jdk/internal/util/Preconditions" ∈ lw_tbl := by decide +kernel
theorem ee_flat_zs : Cond.eq (.static "java/lang/String" "COMPACT_STRINGS" "Z") (.int 1) ∈ flatC (Jvm.Cond.and given_1 narrow_1) ∧ Cond.isRef (.static "jdk/internal/util/Preconditions" "SIOOBE_FORMATTER" "Ljava/util/function/BiFunction;") ∈ flatC (Jvm.Cond.and given_1 narrow_1) := by decide +kernel
theorem ee_tbl_str : ∀ q ∈ ee_str, Cond.stringRef q.1 q.2.1 q.2.2.1 ∈ lw_tbl ∧ (2 ≤ q.2.2.2 ∧ q.2.2.2 < 23) := by decide +kernel
theorem ee_flat_s1 : ∀ q ∈ ee_str, Cond.exactly (.string q.1 q.2.1) "java/lang/String" ∈ flatC (Jvm.Cond.and given_1 narrow_1) ∧ Cond.eq (.field (.string q.1 q.2.1) "java/lang/String" "coder" "B") (.int 0) ∈ flatC (Jvm.Cond.and given_1 narrow_1) ∧ Cond.arrayOf (.field (.string q.1 q.2.1) "java/lang/String" "value" "[B") .byte ∈ flatC (Jvm.Cond.and given_1 narrow_1) ∧ Cond.eq (.length (.field (.string q.1 q.2.1) "java/lang/String" "value" "[B")) (.int (Int32.ofNat (ee_txb q.2.2.2).length)) ∈ flatC (Jvm.Cond.and given_1 narrow_1) := by decide +kernel
theorem ee_flat_s2 : ∀ q ∈ ee_str, ∀ j, j < (ee_txb q.2.2.2).length → Cond.eq (.elem (.field (.string q.1 q.2.1) "java/lang/String" "value" "[B") (.int (Int32.ofNat j))) (.int (Int32.ofNat ((ee_txb q.2.2.2).getD j 0))) ∈ flatC (Jvm.Cond.and given_1 narrow_1) := by decide +kernel
theorem ee_str_len : ∀ q ∈ ee_str, (ee_txb q.2.2.2).length < 2147483648 := by decide +kernel
theorem ee_str_one : ∀ q ∈ ee_str, ∀ q' ∈ ee_str, q.2.2.2 = q'.2.2.2 → q = q' := by decide +kernel
def ee_xa (b rt : Nat) (ft : Nat → Nat × Nat) : List Nat := [b, rt, (ft 2).1, (ft 3).1, (ft 4).1, (ft 5).1, (ft 6).1, (ft 7).1, (ft 8).1, (ft 9).1, (ft 10).1, (ft 11).1, (ft 12).1, (ft 13).1, (ft 14).1, (ft 15).1, (ft 16).1, (ft 17).1, (ft 18).1, (ft 19).1, (ft 20).1, (ft 21).1, (ft 22).1, (ft 2).2, (ft 3).2, (ft 4).2, (ft 5).2, (ft 6).2, (ft 7).2, (ft 8).2, (ft 9).2, (ft 10).2, (ft 11).2, (ft 12).2, (ft 13).2, (ft 14).2, (ft 15).2, (ft 16).2, (ft 17).2, (ft 18).2, (ft 19).2, (ft 20).2, (ft 21).2, (ft 22).2]
theorem ee_xa_at (b rt : Nat) (ft : Nat → Nat × Nat) : ∀ j, 2 ≤ j → j < 23 → (ee_xa b rt ft)[j]? = some (ft j).1 ∧ (ee_xa b rt ft)[j + 21]? = some (ft j).2
  | 0, h, _ => absurd h (by decide)
  | 1, h, _ => absurd h (by decide)
  | 2, _, _ => ⟨rfl, rfl⟩
  | 3, _, _ => ⟨rfl, rfl⟩
  | 4, _, _ => ⟨rfl, rfl⟩
  | 5, _, _ => ⟨rfl, rfl⟩
  | 6, _, _ => ⟨rfl, rfl⟩
  | 7, _, _ => ⟨rfl, rfl⟩
  | 8, _, _ => ⟨rfl, rfl⟩
  | 9, _, _ => ⟨rfl, rfl⟩
  | 10, _, _ => ⟨rfl, rfl⟩
  | 11, _, _ => ⟨rfl, rfl⟩
  | 12, _, _ => ⟨rfl, rfl⟩
  | 13, _, _ => ⟨rfl, rfl⟩
  | 14, _, _ => ⟨rfl, rfl⟩
  | 15, _, _ => ⟨rfl, rfl⟩
  | 16, _, _ => ⟨rfl, rfl⟩
  | 17, _, _ => ⟨rfl, rfl⟩
  | 18, _, _ => ⟨rfl, rfl⟩
  | 19, _, _ => ⟨rfl, rfl⟩
  | 20, _, _ => ⟨rfl, rfl⟩
  | 21, _, _ => ⟨rfl, rfl⟩
  | 22, _, _ => ⟨rfl, rfl⟩
  | j + 23, _, h => absurd h (by omega)
theorem ee_G_law {p : Program} {s : State} {m : MethodId} {meth : Method} {c : Code} {b L : Nat} {xs : Nat → Int32} (C0 : lw_At p s m meth c b L xs) : ∃ (D : va_G) (dA : Nat → ClassId) (xa : List Nat), xa[0]? = some b ∧ ∀ sc : List (Nat × Nat), (sc.length = L ∧ ∀ i q, sc[i]? = some q → ee_in (xs i) q) → ee_C p s m #[Value.ref b] meth c D dA xa [some sc, some ab_rnd] s.heap.size 0 := by
  obtain ⟨hx, hb, hr, hml, hown, hts, hX, hbl, hlocks, hgv, hnm⟩ := C0
  have hfl := flat_of_before _ hgv
  have hgd : ∀ w ∈ ee_good, w.before #[Value.ref b] s = true := fun w hw => hts w (ee_good_in w hw)
  have hcls : ∀ ci, ∃ q : ClassId × (Nat → Nat), ci < 12 → ∀ r : vw_C, ee_cl[ci]? = some r → u_Kn s r.1 r.2.1 r.2.2 q.1 q.2 := by
    intro ci
    by_cases h : ci < 12
    · obtain ⟨C, T, N, fs, ecx, ecl, edf, hfl9, hin, hty, hnm9, hdecl, hins, hini, hkind⟩ := ee_cls h
      obtain ⟨cC, iS, hK⟩ := u_known (C := C) (T := T) (N := N) (n := N) hgd hin (hgd _ hins)
      refine ⟨(cC, iS), fun _ r hr9 => ?_⟩
      rw [ecl] at hr9
      cases hr9
      exact hK
    · exact ⟨(0, fun _ => 0), fun h9 => absurd h9 h⟩
  obtain ⟨cf, hcf⟩ := Classical.axiomOfChoice hcls
  obtain ⟨a0, p0, q0⟩ := ee_arr1 (hgd _ ee_aw0)
  obtain ⟨a1, p1, q1⟩ := ee_arr1 (hgd _ ee_aw1)
  obtain ⟨a2, p2, q2⟩ := ee_arr1 (hgd _ ee_aw2)
  obtain ⟨a3, p3, q3⟩ := ee_arr2 (hts _ (ee_tbl_ao ee_c4 (by simp [ee_ao])))
  obtain ⟨a4, p4, q4⟩ := ee_arr2 (hts _ (ee_tbl_ao ee_c5 (by simp [ee_ao])))
  obtain ⟨a5, p5, q5⟩ := ee_arr2 (hts _ (ee_tbl_ao ee_c3 (by simp [ee_ao])))
  obtain ⟨a6, p6, q6⟩ := ee_arr2 (hts _ (ee_tbl_ao ee_c10 (by simp [ee_ao])))
  have hA : ∀ a : Nat, a < s.heap.size → ¬ (fun q => s.heap.size ≤ q) a := fun a h => Nat.not_le.mpr h
  obtain ⟨rt, hrt, cell, g1, g2, g3, g4, g5, g6, g7⟩ := va_Tof (N := 20) (f := fun j => .int (ee_rnd.getD j 0)) (A := fun q => s.heap.size ≤ q) (by decide) (hfl _ ee_flat_r1.1) (va_eqt (hfl _ ee_flat_r1.2)) (fun j hj => va_eqt (hfl _ (ee_flat_r2 j hj))) hA
  have hZ : va_Z "StoreBufferHeap$Collector" "ROUND" "[I" (.ref rt) (fun q => s.heap.size ≤ q) s s.heap := va_Zof (hts _ ee_tbl_r.1) (hts _ ee_tbl_r.2) hrt hA
  have hBx : ∀ a : Nat, a < s.heap.size → ¬ s.heap.size ≤ a := fun a h => Nat.not_le.mpr h
  have hz1 := va_Zof (A := fun q => s.heap.size ≤ q) (hts _ ee_tbl_zs.1) (hts _ ee_tbl_zs.2.1) (va_eqt (hfl _ ee_flat_zs.1)) hA
  obtain ⟨vf, hvf, hvr⟩ := Cond.isRef_spec (hfl _ ee_flat_zs.2)
  have hvz : vf = .null ∨ ∃ z, vf = .ref z := by
    cases vf <;> first | exact Or.inl rfl | exact Or.inr ⟨_, rfl⟩ | (simp [Value.isRef] at hvr; done)
  have hz2 := va_Zof (A := fun q => s.heap.size ≤ q) (hts _ ee_tbl_zs.2.2.1) (hts _ ee_tbl_zs.2.2.2) hvf hA
  have hft : ∀ j : Nat, ∃ w : Nat × Nat, ∀ q ∈ ee_str, q.2.2.2 = j → vk_R q.1 q.2.1 q.2.2.1 w.1 s ∧ ee_txT j w.1 w.2 s.heap.size s := by
    intro j
    by_cases hj : ∃ q ∈ ee_str, q.2.2.2 = j
    · obtain ⟨q, hq, ej⟩ := hj
      obtain ⟨u1, u2, u3, u4⟩ := ee_flat_s1 q hq
      obtain ⟨a, c9, cA, kA, w1, w2, w3, w4, w5, w6, -⟩ := Cond.exactly_spec (args := #[Value.ref b]) (first := s) (o := none) (s := s) (idx := []) (hfl _ u1)
      obtain ⟨t, ht, hT⟩ := va_Tof (N := (ee_txb q.2.2.2).length) (f := fun i => .int (Int32.ofNat ((ee_txb q.2.2.2).getD i 0))) (A := fun q => s.heap.size ≤ q) (ee_str_len q hq) (hfl _ u3) (va_eqt (hfl _ u4)) (fun i hi => va_eqt (hfl _ (ee_flat_s2 q hq i hi))) hA
      refine ⟨(a, t), fun q' hq' ej' => ?_⟩
      have eq' : q' = q := ee_str_one q' hq' q hq (ej'.trans ej.symm)
      subst eq'
      subst ej
      exact ⟨vk_R.of (hts _ (ee_tbl_str q' hq').1) w1, ⟨⟨cA, w3, w5, by rw [w6]; exact w2, hA a (Array.getElem?_eq_some_iff.mp w3).1⟩, vk_OFof w1 (va_eqt (hfl _ u2)) hA, vk_OFof w1 ht hA, hT⟩, hz1, vf, hz2, hvz⟩
    · exact ⟨(0, 0), fun q hq ej => absurd ⟨q, hq, ej⟩ hj⟩
  obtain ⟨ft, hft⟩ := Classical.axiomOfChoice hft
  refine ⟨(fun k => (cf k).1, fun k => (cf k).2), fun k => match k with | 0 => a0 | 1 => a1 | 2 => a2 | 3 => a3 | 4 => a4 | 5 => a5 | _ => a6, ee_xa b rt ft, rfl, fun sc hsc => ?_⟩
  refine ⟨hx, hb, hml, hown, hgd, ⟨⟨fun k r hk => ?_, fun k q hk => ?_⟩, ⟨fun w hw => va_Nw.of (ee_tbl_nest w hw).2 (hts w (ee_tbl_nest w hw).1), va_Nw.of ee_tbl_cas.2 (hts _ ee_tbl_cas.1)⟩, fun C hC => va_AO.of (hts _ (ee_tbl_ao C hC)), fun q hq => ⟨_, (ee_xa_at b rt ft _ (ee_tbl_str q hq).2.1 (ee_tbl_str q hq).2.2).1, (hft _ q hq rfl).1, _, (ee_xa_at b rt ft _ (ee_tbl_str q hq).2.1 (ee_tbl_str q hq).2.2).2, (hft _ q hq rfl).2⟩, ⟨rt, rfl, hZ⟩, fun j l hj => ?_⟩, Nat.le_refl _, hlocks, hr, hnm, by decide⟩
  · have hlt : k < 12 := (List.getElem?_eq_some_iff.mp hk).1
    exact hcf k hlt r hk
  · match k, hk with
    | 0, hk => cases hk; exact ⟨p0, q0⟩
    | 1, hk => cases hk; exact ⟨p1, q1⟩
    | 2, hk => cases hk; exact ⟨p2, q2⟩
    | 3, hk => cases hk; exact ⟨p3, q3⟩
    | 4, hk => cases hk; exact ⟨p4, q4⟩
    | 5, hk => cases hk; exact ⟨p5, q5⟩
    | 6, hk => cases hk; exact ⟨p6, q6⟩
    | k + 7, hk => simp [ee_tys] at hk
  · match j, hj with
    | 0, hj =>
      have hj' : sc = l := by simpa using hj
      subst hj'
      obtain ⟨s1, s2⟩ := hsc
      obtain ⟨scr, x1, x2, x3, x4, x5⟩ := hX
      refine ⟨b, scr, rfl, hbl, x1, x2, x3, by omega, by rw [x4, s1], fun i q hq => ?_⟩
      have hi : i < L := by rw [← s1]; exact (List.getElem?_eq_some_iff.mp hq).1
      exact ⟨xs i, x5 i hi, s2 i q hq⟩
    | 1, hj =>
      have hj' : ab_rnd = l := by simpa using hj
      subst hj'
      refine ⟨rt, cell, rfl, Nat.not_le.mp g7, g1, g2, g3, g4, g5, fun i q hq => ?_⟩
      have hi : i < 20 := (List.getElem?_eq_some_iff.mp hq).1
      obtain ⟨q9, y1, y2, y3⟩ := ee_rnd_in i hi
      rw [hq] at y1
      cases y1
      exact ⟨ee_rnd.getD i 0, g6 i hi, by rw [y2]; exact Nat.le_refl _, by rw [y2, y3]; exact Nat.le_refl _⟩
    | j + 2, hj => simp at hj
theorem lw_gall : ∀ T ∈ lw_Ts, ∀ t ∈ lw_tg, lw_ok t T = true := by
  intro T hT t ht
  unfold lw_Ts at hT
  simp only [List.mem_cons, List.not_mem_nil, or_false] at hT
  rcases hT with rfl | rfl | rfl | rfl | rfl | rfl | rfl | rfl
  · exact List.all_eq_true.mp lw_g0 t ht
  · exact List.all_eq_true.mp lw_g1 t ht
  · exact List.all_eq_true.mp lw_g2 t ht
  · exact List.all_eq_true.mp lw_g3 t ht
  · exact List.all_eq_true.mp lw_g4 t ht
  · exact List.all_eq_true.mp lw_g5 t ht
  · exact List.all_eq_true.mp lw_g6 t ht
  · exact List.all_eq_true.mp lw_g7 t ht
def lw_tj (g : ab_F) : Bool := (lw_cl false g && lw_TJ.2.2.2.1.2.2.2.1.any (fun x => decide (x = g))) || (decide (g = lw_f6) || (decide (g.2.2 = .inl (9, 1, 0)) && lw_TJ.2.2.2.1.2.2.2.1.any (fun x => decide (x = (g.1, g.2.1, .inl (0, 0, 0))) && lw_cl false x)))
theorem lw_TJc : (lw_T0.2.2.2.1.2.2.2.1.all lw_tj) = true := by decide +kernel
theorem lw_TJf : (lw_TJ.2.2.2.1.2.2.2.1.any fun x => decide (x = lw_f6)) = true := by decide +kernel
theorem lw_TJ0 : lw_TJ.2.2.2.1 = ([(0, 8000000)], [], lw_T0.2.2.2.1.2.2.1, lw_TJ.2.2.2.1.2.2.2.1, []) ∧ lw_TJ.2.1 = [.inr (.inr 2), .inr (.inl 1), .inr (.inl 11), .inl (0, 0, 0)] ∧ lw_T0.2.2.2.1.2.2.1.length = 9 := ⟨rfl, rfl, rfl⟩
theorem lw_T0l : lw_T0.2.2.2.1.1.length = 10 ∧ lw_T0.2.2.2.1.1[9]? = some (0, 400) := by decide +kernel
theorem whole_start {p : Program} {e : Env} {s : State} {m : MethodId} {below : List Frame} {meth : Method} {c : Code} (l : Launch) {b L : Nat} {xs : Nat → Int32} (hL : L ≤ 384) (C0 : lw_At p s m meth c b L xs) : W p l e room_1 s m #[Value.ref b] below meth c s.heap [] 0 0 (lw_Z below #[Value.ref b] s) (entryFrame m ([Value.ref b] : List Value).toArray 4) := by
  obtain ⟨D, dA, xa, hxa, hCC⟩ := ee_G_law C0
  obtain ⟨hR, hrc, hrs⟩ := lw_room
  obtain ⟨sc, hsl, hsa⟩ : ∃ sc : List (Nat × Nat), sc.length = L ∧ ∀ j, j < L → sc[j]? = some (ee_z (xs j), ee_z (xs j)) := ⟨(List.range L).map fun j => (ee_z (xs j), ee_z (xs j)), by rw [List.length_map, List.length_range], fun j hj => by
    rw [List.getElem?_map, List.getElem?_range hj]
    rfl⟩
  have hC := hCC sc ⟨hsl, fun i q hq => by
    have hi : i < L := by
      rw [← hsl]
      exact (List.getElem?_eq_some_iff.mp hq).1
    rw [hsa i hi] at hq
    cases hq
    exact ⟨Nat.le_refl _, Nat.le_refl _⟩⟩
  have hx1 : ([some sc, some ab_rnd] : ee_X)[1]? = some (some ab_rnd) := rfl
  have hx0 : ([some sc, some ab_rnd] : ee_X)[0]? = some (some sc) := rfl
  have hl := lv_entry [Value.ref b] (n := 4) (by show 1 ≤ 4; omega)
  rw [lg_entry_eq]
  refine lw_phase1 lw_ph1 (lw_Kpc hx1) hx1 hC hR (by rw [hrc, hrs]; omega) hl hxa (fun ke ph0 ks ws sv H locs ls h29 hph hG hP hD hS hlo => ?_)
  obtain ⟨j1, j2, j3⟩ := lw_TJ0
  rw [j1] at hG
  rw [j2] at hlo
  have hs8 : sv.length = 9 := by
    have h9 : sv.length = lw_T0.2.2.2.1.2.2.1.length := hG.2.2.1.1
    rw [h9, j3]
  obtain ⟨p1, p2, p3, p4, p5, p6, p7, p8, p9⟩ := lw_Tp lw_T0 List.mem_cons_self
  have hG0 : ab_G ab_cls dA xa ks ws (lw_rv L xs 0 ++ [0]) sv (lw_T0.2.2.2.1.1, [], lw_T0.2.2.2.1.2.2.1, lw_T0.2.2.2.1.2.2.2.1, []) := by
    refine lw_G_re (b := false) hG (fun h9 => by cases h9) (lw_rv_I2 hL (by decide) p4 lw_T0l.1 (fun i q hi hq => ?_)) (fun g hg => ?_)
    · have hlt := (List.getElem?_eq_some_iff.mp hq).1
      have e10 := lw_T0l.1
      have e9 : i = 9 := by omega
      subst e9
      rw [lw_T0l.2] at hq
      cases hq
      exact ⟨0, rfl, by decide, by decide⟩
    have h8 := List.all_eq_true.mp lw_TJc g hg
    unfold lw_tj at h8
    rw [Bool.or_eq_true, Bool.or_eq_true, Bool.and_eq_true, Bool.and_eq_true] at h8
    rcases h8 with ⟨h8, h7⟩ | h8 | ⟨h8, h7⟩
    · obtain ⟨x, x1, x2⟩ := List.any_eq_true.mp h7
      rw [of_decide_eq_true x2] at x1
      exact Or.inl ⟨h8, x1⟩
    · have eg := of_decide_eq_true h8
      subst eg
      obtain ⟨x, x1, x2⟩ := List.any_eq_true.mp lw_TJf
      rw [of_decide_eq_true x2] at x1
      exact Or.inr (lw_f6_re (c := 0) (n0 := 0) (n1 := 0) (hG.2.2.2.1 _ x1) rfl rfl (Int.le_refl _) rfl rfl rfl)
    · obtain ⟨x, x1, x2⟩ := List.any_eq_true.mp h7
      rw [Bool.and_eq_true] at x2
      obtain ⟨x2, x3⟩ := x2
      have ex := of_decide_eq_true x2
      rw [ex] at x1 x3
      obtain ⟨g1, g2, g3⟩ := g
      have e3 : g3 = .inl (9, 1, 0) := of_decide_eq_true h8
      subst e3
      exact Or.inr (lw_S9 rfl (lw_cl_snd (b := false) (fun h9 => by cases h9) x3 (hG.2.2.2.1 _ x1)))
  have hG1 : ab_G ab_cls dA xa ks ws (lw_rv L xs 0 ++ [0]) sv lw_T0.2.2.2.1 := hG0
  have hlo0 : ab_lo (lw_rv L xs 0 ++ [0]) sv xa ls 4 lw_T0.2.1 := by
    rw [lw_lo0]
    obtain ⟨lo1, lv, lo2, lo3⟩ := hlo
    refine ⟨rfl, lv, lo2, fun i a ha => ?_⟩
    match i, ha with
    | 0, ha =>
      cases ha
      exact lo3 0 (.inr (.inr 2)) rfl
    | 1, ha =>
      cases ha
      exact lo3 1 (.inr (.inl 1)) rfl
    | 2, ha =>
      cases ha
      exact lo3 2 (.inr (.inl 11)) rfl
    | 3, ha =>
      cases ha
      obtain ⟨v, m3, x, rfl, hx3⟩ := (lo3 3 (.inl (0, 0, 0)) rfl).resolve_left (fun h9 => by cases h9)
      refine Or.inr ⟨_, m3, x, rfl, ?_⟩
      rw [ab_ev0 rfl] at hx3
      rw [ab_evc (Or.inr (show (lw_rv L xs 0 ++ [0])[1]? = some ((6 * 0 : Nat) : Int) from rfl))]
      exact hx3
    | i + 4, ha => simp at ha
  have h04 : ee_ml 0 = 4 := by decide +kernel
  have k := lw_loop (l := l) (e := e) (below := below) lw_gall hx1 hC (X := xs) hL hx0 hsl hsa (sv0 := (sv, (ks, ws), ab_wm lw_mk, ke, 0, ph0)) hs8 rfl rfl (c0 := 172) (s0 := 206560) (by decide) (by decide) 64 0 rfl lw_T0 List.mem_cons_self ks ws (lw_rv L xs 0 ++ [0]) sv H locs ls [] (List.prefix_append _ _) ⟨List.prefix_refl _, ⟨ab_kp_rf, fun k κ q _ h2 => Or.inl h2, h29⟩, hph⟩ hG1 hP hD hS (by rw [h04]; exact hlo0) trivial
  exact k
