/-! THE CLAIM OUT OF ONE WALK OF THE LAW'S BODY. Your part is whole_start (and what it stands on); all else here is the same for every law, but numbers. -/
def R_law : String := "StoreBufferHeapLaw"
def lw_P (b : Addr) (xs : List Int32) (args : Array Value) (s : State) : Prop := args = #[.ref b] ∧ s.IntsAt b xs ∧ xs.length ≤ 6 ∧ (Jvm.Cond.and given_1 narrow_1).before args s = true
def lw_Q (_ : Array Value) (s : State) (o : Outcome) (t : State) : Prop := o = .returned (some (.int 1)) ∧ Framed s o t [] 600000 7302250
def lw_Z (below : List Frame) (a : Array Value) (s : State) : State → Prop := fun t => ∃ o, t.status = .running ∧ Ended t below o ∧ lw_Q a s o t
/-- the law's own end, with 1 on the stack, nothing written that was there before, its room as the claim has it -/
theorem lw_ret {p : Program} {l : Launch} {e : Env} {s : State} {m : MethodId} {below : List Frame} {meth : Method} {c : Code} {b : Nat} (hx : p.tables.exec = Jvm.exec) (hb : c.code = code) (hr : meth.sig.returnType = ret) (hlocks : meth.locks = false) {pc : Nat} {H : Heap} {ls : Array Slot} (hdg : decode code pc = .ok (.ireturn, 1)) : W p l e room_1 s m #[Value.ref b] below meth c H [] 600000 7302250 (lw_Z below #[Value.ref b] s) (F0 m pc ls [.int 1]) := by
  intro T hT X
  obtain ⟨fs, hret, hrun, hended, hW, hframe⟩ := X.leave (v := some (.int 1)) (hlocks := hlocks) (fun h => by rw [hr] at h; cases h)
  have hmeth' : T.vm.method? m = some meth := X.method'
  refine ⟨T.setFrames fs, ?_, .returned (some (.int 1)), hrun, hended, rfl, ⟨_, rfl⟩, hW, hframe⟩
  jvm_step X.here [X.here.top, hx, hb, hdg, hmeth', hr, ret, narrow_b1]
  (try refine ⟨rfl, ?_⟩); (try refine ⟨rfl, ?_⟩)
  first | (intro acts; rw [hret _ acts rfl rfl rfl]) | rw [hret _ _ rfl rfl rfl]
  exact Steps.refl _
/-- what holds at the law's entry: the machine, the code, the tables' words (any of lw_tbl by 'hts w (by decide +kernel)'), the script of L ints xs at the cell b, what the Statement gives of the start (any of its parts by flat_of_before) -/
def lw_At (p : Program) (s : State) (m : MethodId) (meth : Method) (c : Code) (b L : Nat) (xs : Nat → Int32) : Prop :=
  p.tables.exec = Jvm.exec ∧ c.code = code ∧ meth.sig.returnType = ret ∧ c.maxLocals = 4 ∧ s.vm.findClass R_law = some m.cls ∧ (∀ w ∈ lw_tbl, w.before #[Value.ref b] s = true) ∧ va_X b L xs s s.heap ∧ b < s.heap.size ∧ meth.locks = false ∧ (Jvm.Cond.and given_1 narrow_1).before #[Value.ref b] s = true ∧ meth.name = "law"
/-! ===== what holds at the law's entry, in the engine's words ===== -/
def ee_rnd : List Int32 := [0, 3, 4, 0, 3, 5, 0, 3, 6, 7, 0, 3, 1, 3, 8, 2, 3, 9, 10, 11]
def ee_round : List (Nat × Nat) := [(2147483648, 2147483648), (2147483651, 2147483651), (2147483652, 2147483652), (2147483648, 2147483648), (2147483651, 2147483651), (2147483653, 2147483653), (2147483648, 2147483648), (2147483651, 2147483651), (2147483654, 2147483654), (2147483655, 2147483655), (2147483648, 2147483648), (2147483651, 2147483651), (2147483649, 2147483649), (2147483651, 2147483651), (2147483656, 2147483656), (2147483650, 2147483650), (2147483651, 2147483651), (2147483657, 2147483657), (2147483658, 2147483658), (2147483659, 2147483659)]
theorem ee_rnd_in : ∀ i, i < 20 → ∃ q, ee_round[i]? = some q ∧ ee_z (ee_rnd.getD i 0) = q.1 ∧ q.1 = q.2 := by
  intro i hi
  have h : ∀ i, i < 20 → ee_round[i]? = some (ee_z (ee_rnd.getD i 0), ee_z (ee_rnd.getD i 0)) := by decide +kernel
  exact ⟨_, h i hi, rfl, rfl⟩
theorem ee_tbl_nest : ∀ w ∈ ee_nest, w ∈ lw_tbl ∧ w.onTables = true := by decide +kernel
theorem ee_tbl_ao : ∀ C ∈ ee_ao, Cond.arrayOver (.object C) ∈ lw_tbl := by decide +kernel
theorem ee_tbl_str : ∀ q ∈ ee_str, Cond.stringRef q.1 q.2.1 q.2.2.1 ∈ lw_tbl ∧ Cond.exactly (.string q.1 q.2.1) "java/lang/String" ∈ flatC (Jvm.Cond.and given_1 narrow_1) ∧ q.2.2.2 = 2 := by decide +kernel
theorem ee_flat_r1 : Cond.arrayOf (.static "StoreBufferHeap$Collector" "ROUND" "[I") .int ∈ flatC (Jvm.Cond.and given_1 narrow_1) ∧ Cond.eq (.length (.static "StoreBufferHeap$Collector" "ROUND" "[I")) (.int (Int32.ofNat 20)) ∈ flatC (Jvm.Cond.and given_1 narrow_1) := by decide +kernel
theorem ee_flat_r2 : ∀ j, j < 20 → Cond.eq (.elem (.static "StoreBufferHeap$Collector" "ROUND" "[I") (.int (Int32.ofNat j))) (.int (ee_rnd.getD j 0)) ∈ flatC (Jvm.Cond.and given_1 narrow_1) := by decide +kernel
theorem ee_tbl_r : Cond.laysStatic "StoreBufferHeap$Collector" "ROUND" "[I" ∈ lw_tbl ∧ Cond.initialized "StoreBufferHeap$Collector" ∈ lw_tbl := by decide +kernel
theorem ee_good_in : ∀ w ∈ ee_good, w ∈ lw_tbl := fun w hw => (List.mem_filter.mp hw).1
theorem ee_arr1 {args : Array Value} {s : State} {ty : FieldType} (h : (Cond.arrayClass ty).before args s = true) : ∃ cA, ArrOfT s cA ty ∧ s.vm.findClass ("[" ++ ty.toString) = some cA := by
  obtain ⟨cA, kA, comp, h1, h2, h3⟩ := Cond.arrayClass_spec h
  exact ⟨cA, fun n z => ⟨fun k h => (by cases h), kA, h2, comp, h3⟩, h1⟩
theorem ee_arr2 {args : Array Value} {s : State} {C : String} (h : (Cond.arrayOver (.object C)).before args s = true) : ∃ cA, ArrOfT s cA (.object C) ∧ va_RA s cA (.object C) := by
  obtain ⟨comp, cA, kA, h1, h2, h3, h4, h5⟩ := Cond.arrayOver_spec h
  exact ⟨cA, fun n z => ⟨fun k h => (by cases h), kA, h3, comp, h4⟩, kA, comp, h3, h4, h1, h5⟩
theorem ee_G_law {p : Program} {s : State} {m : MethodId} {meth : Method} {c : Code} {b L : Nat} {xs : Nat → Int32} (C0 : lw_At p s m meth c b L xs) : ∃ (D : va_G) (dA : Nat → ClassId) (xa : List Nat), xa[0]? = some b ∧ ∀ sc : Option (List (Nat × Nat)), (∀ l, sc = some l → l.length = L ∧ ∀ i q, l[i]? = some q → ee_in (xs i) q) → ee_C p s m #[Value.ref b] meth c D dA xa [sc, some ee_round] s.heap.size 0 := by
  obtain ⟨hx, hb, hr, hml, hown, hts, hX, hbl, hlocks, hgv, hnm⟩ := C0
  have hfl := flat_of_before _ hgv
  have hgd : ∀ w ∈ ee_good, w.before #[Value.ref b] s = true := fun w hw => hts w (ee_good_in w hw)
  have hcls : ∀ ci, ∃ q : ClassId × (Nat → Nat), ci < 12 → ∀ r : vw_C, ee_cl[ci]? = some r → u_Kn s r.1 r.2.1 r.2.2 q.1 q.2 := by
    intro ci
    by_cases h : ci < 12
    · obtain ⟨C, T, N, fs, ecx, ecl, edf, hfl9, hin, hty, hnm9, hdecl, hins, hini, hkind⟩ := ee_cls h
      obtain ⟨cC, iS, hK⟩ := u_known (C := C) (T := T) (N := N) (n := N) hgd hin (hgd _ hins)
      refine ⟨(cC, iS), fun _ r hr9 => ?_⟩
      rw [ecl] at hr9
      cases hr9
      exact hK
    · exact ⟨(0, fun _ => 0), fun h9 => absurd h9 h⟩
  obtain ⟨cf, hcf⟩ := Classical.axiomOfChoice hcls
  obtain ⟨a0, p0, q0⟩ := ee_arr1 (hgd _ ee_aw0)
  obtain ⟨a1, p1, q1⟩ := ee_arr1 (hgd _ ee_aw1)
  obtain ⟨a2, p2, q2⟩ := ee_arr1 (hgd _ ee_aw2)
  obtain ⟨a3, p3, q3⟩ := ee_arr2 (hts _ (ee_tbl_ao ee_c4 (by simp [ee_ao])))
  obtain ⟨a4, p4, q4⟩ := ee_arr2 (hts _ (ee_tbl_ao ee_c5 (by simp [ee_ao])))
  obtain ⟨a5, p5, q5⟩ := ee_arr2 (hts _ (ee_tbl_ao ee_c3 (by simp [ee_ao])))
  obtain ⟨a6, p6, q6⟩ := ee_arr2 (hts _ (ee_tbl_ao ee_c10 (by simp [ee_ao])))
  have hA : ∀ a : Nat, a < s.heap.size → ¬ (fun q => s.heap.size ≤ q) a := fun a h => Nat.not_le.mpr h
  obtain ⟨rt, hrt, cell, g1, g2, g3, g4, g5, g6, g7⟩ := va_Tof (N := 20) (f := fun j => .int (ee_rnd.getD j 0)) (A := fun q => s.heap.size ≤ q) (by decide) (hfl _ ee_flat_r1.1) (va_eqt (hfl _ ee_flat_r1.2)) (fun j hj => va_eqt (hfl _ (ee_flat_r2 j hj))) hA
  have hZ : va_Z "StoreBufferHeap$Collector" "ROUND" "[I" (.ref rt) (fun q => s.heap.size ≤ q) s s.heap := va_Zof (hts _ ee_tbl_r.1) (hts _ ee_tbl_r.2) hrt hA
  obtain ⟨stra, hstra⟩ : ∃ a, ∀ q ∈ ee_str, vk_R q.1 q.2.1 q.2.2.1 a s := by
    obtain ⟨t1, t2, -⟩ := ee_tbl_str ("StoreBufferHeap$Reader", 65, "party", 2) (by simp [ee_str])
    obtain ⟨a, c9, cA, kA, z1, -⟩ := Cond.exactly_spec (args := #[Value.ref b]) (first := s) (o := none) (s := s) (idx := []) (hfl _ t2)
    refine ⟨a, fun q hq => ?_⟩
    have : q = ("StoreBufferHeap$Reader", 65, "party", 2) := by simpa [ee_str] using hq
    subst this
    exact vk_R.of (hts _ t1) z1
  refine ⟨(fun k => (cf k).1, fun k => (cf k).2), fun k => match k with | 0 => a0 | 1 => a1 | 2 => a2 | 3 => a3 | 4 => a4 | 5 => a5 | _ => a6, [b, rt, stra], rfl, fun sc hsc => ?_⟩
  refine ⟨hx, hb, hml, hown, hgd, ⟨⟨fun k r hk => ?_, fun k q hk => ?_⟩, fun w hw => va_Nw.of (ee_tbl_nest w hw).2 (hts w (ee_tbl_nest w hw).1), fun C hC => va_AO.of (hts _ (ee_tbl_ao C hC)), fun q hq => ⟨stra, ?_, hstra q hq⟩, ⟨rt, rfl, hZ⟩, fun j l hj => ?_⟩, Nat.le_refl _, hlocks, hr, hnm, by decide⟩
  · have hlt : k < 12 := (List.getElem?_eq_some_iff.mp hk).1
    exact hcf k hlt r hk
  · match k, hk with
    | 0, hk => cases hk; exact ⟨p0, q0⟩
    | 1, hk => cases hk; exact ⟨p1, q1⟩
    | 2, hk => cases hk; exact ⟨p2, q2⟩
    | 3, hk => cases hk; exact ⟨p3, q3⟩
    | 4, hk => cases hk; exact ⟨p4, q4⟩
    | 5, hk => cases hk; exact ⟨p5, q5⟩
    | 6, hk => cases hk; exact ⟨p6, q6⟩
    | k + 7, hk => simp [ee_tys] at hk
  · rw [(ee_tbl_str q hq).2.2]
    rfl
  · match j, hj with
    | 0, hj =>
      have hj' : sc = some l := by simpa using hj
      obtain ⟨s1, s2⟩ := hsc l hj'
      obtain ⟨scr, x1, x2, x3, x4, x5⟩ := hX
      refine ⟨b, scr, rfl, hbl, x1, x2, x3, by omega, by rw [x4, s1], fun i q hq => ?_⟩
      have hi : i < L := by rw [← s1]; exact (List.getElem?_eq_some_iff.mp hq).1
      exact ⟨xs i, x5 i hi, s2 i q hq⟩
    | 1, hj =>
      have hj' : ee_round = l := by simpa using hj
      subst hj'
      refine ⟨rt, cell, rfl, Nat.not_le.mp g7, g1, g2, g3, g4, g5, fun i q hq => ?_⟩
      have hi : i < 20 := (List.getElem?_eq_some_iff.mp hq).1
      obtain ⟨q9, y1, y2, y3⟩ := ee_rnd_in i hi
      rw [hq] at y1
      cases y1
      exact ⟨ee_rnd.getD i 0, g6 i hi, by rw [y2]; exact Nat.le_refl _, by rw [y2, y3]; exact Nat.le_refl _⟩
    | j + 2, hj => simp at hj
