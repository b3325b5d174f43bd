/-! ===== what holds at a method's start, and the goal at a described state ===== -/
def ee_tys (dA : Nat → ClassId) : List (ClassId × FieldType) := [(dA 0, .int), (dA 1, .long), (dA 2, .boolean), (dA 3, .object ee_c4), (dA 4, .object ee_c5), (dA 5, .object ee_c3), (dA 6, .object ee_c10)]
def ee_ao : List String := [ee_c4, ee_c5, ee_c3, ee_c10]
abbrev ee_X : Type := List (Option (List (Nat × Nat)))
/-- the bytes of the texts, by their codes; what is known of a text -/
def ee_txb (j : Nat) : List Nat := bif Nat.blt j (nat_lit 12) then (bif Nat.blt j (nat_lit 7) then (bif Nat.blt j (nat_lit 4) then (bif Nat.blt j (nat_lit 3) then (bif Nat.beq j (nat_lit 2) then [nat_lit 112, nat_lit 97, nat_lit 114, nat_lit 116, nat_lit 121] else []) else (bif Nat.beq j (nat_lit 3) then [nat_lit 110, nat_lit 101, nat_lit 119] else [])) else (bif Nat.blt j (nat_lit 5) then (bif Nat.beq j (nat_lit 4) then [nat_lit 100, nat_lit 114, nat_lit 111, nat_lit 112] else []) else (bif Nat.blt j (nat_lit 6) then (bif Nat.beq j (nat_lit 5) then [nat_lit 115, nat_lit 101, nat_lit 101] else []) else (bif Nat.beq j (nat_lit 6) then [nat_lit 99, nat_lit 111, nat_lit 112, nat_lit 121] else [])))) else (bif Nat.blt j (nat_lit 9) then (bif Nat.blt j (nat_lit 8) then (bif Nat.beq j (nat_lit 7) then [nat_lit 108, nat_lit 111, nat_lit 97, nat_lit 100] else []) else (bif Nat.beq j (nat_lit 8) then [nat_lit 115, nat_lit 116, nat_lit 111, nat_lit 114, nat_lit 101] else [])) else (bif Nat.blt j (nat_lit 10) then (bif Nat.beq j (nat_lit 9) then [nat_lit 103, nat_lit 111] else []) else (bif Nat.blt j (nat_lit 11) then (bif Nat.beq j (nat_lit 10) then [nat_lit 112, nat_lit 117, nat_lit 116] else []) else (bif Nat.beq j (nat_lit 11) then [nat_lit 103, nat_lit 101, nat_lit 116] else []))))) else (bif Nat.blt j (nat_lit 17) then (bif Nat.blt j (nat_lit 14) then (bif Nat.blt j (nat_lit 13) then (bif Nat.beq j (nat_lit 12) then [nat_lit 115, nat_lit 119, nat_lit 97, nat_lit 112] else []) else (bif Nat.beq j (nat_lit 13) then [nat_lit 102, nat_lit 101, nat_lit 110, nat_lit 99, nat_lit 101] else [])) else (bif Nat.blt j (nat_lit 15) then (bif Nat.beq j (nat_lit 14) then [nat_lit 114] else []) else (bif Nat.blt j (nat_lit 16) then (bif Nat.beq j (nat_lit 15) then [nat_lit 114, nat_lit 114] else []) else (bif Nat.beq j (nat_lit 16) then [nat_lit 114, nat_lit 114, nat_lit 102] else [])))) else (bif Nat.blt j (nat_lit 20) then (bif Nat.blt j (nat_lit 18) then (bif Nat.beq j (nat_lit 17) then [nat_lit 114, nat_lit 102, nat_lit 114] else []) else (bif Nat.blt j (nat_lit 19) then (bif Nat.beq j (nat_lit 18) then [nat_lit 108] else []) else (bif Nat.beq j (nat_lit 19) then [nat_lit 99, nat_lit 118] else []))) else (bif Nat.blt j (nat_lit 21) then (bif Nat.beq j (nat_lit 20) then [nat_lit 112, nat_lit 99] else []) else (bif Nat.blt j (nat_lit 22) then (bif Nat.beq j (nat_lit 21) then [nat_lit 99, nat_lit 118, nat_lit 112] else []) else (bif Nat.beq j (nat_lit 22) then [] else [])))))
def ee_txT (j a b B : Nat) (U : State) : Prop := (va_O "java/lang/String" a (fun q => B ≤ q) U U.heap ∧ va_OF "java/lang/String" "coder" "B" (.int 0) a (fun q => B ≤ q) U U.heap ∧ va_OF "java/lang/String" "value" "[B" (.ref b) a (fun q => B ≤ q) U U.heap ∧ va_T .byte b (ee_txb j).length (fun i => .int (Int32.ofNat ((ee_txb j).getD i 0))) (fun q => B ≤ q) U U.heap) ∧ va_Z "java/lang/String" "COMPACT_STRINGS" "Z" (.int 1) (fun q => B ≤ q) U U.heap ∧ ∃ v : Value, va_Z "jdk/internal/util/Preconditions" "SIOOBE_FORMATTER" "Ljava/util/function/BiFunction;" v (fun q => B ≤ q) U U.heap ∧ (v = .null ∨ ∃ z, v = .ref z)
theorem ee_txT_warm {j a b B : Nat} {u U : State} (hW : u.vm.Alike U.vm) (hh : ∀ q, q < B → U.heap[q]? = u.heap[q]?) (h : ee_txT j a b B u) : ee_txT j a b B U := by
  obtain ⟨⟨h1, h2, h3, h4⟩, h5, v, h6⟩ := h
  have hk : ∀ q : Nat, q < u.heap.size → ¬ (B ≤ q) → U.heap[q]? = u.heap[q]? := fun q _ hq => hh q (Nat.not_le.mp hq)
  exact ⟨⟨(va_O.moved hW h1).kept hk, (va_OF.moved hW h2).kept hk, (va_OF.moved hW h3).kept hk, (va_T.moved hW h4).kept hk⟩, (va_Z.moved hW h5).kept hk, v, (va_Z.moved hW h6.1).kept hk, h6.2⟩
/-- the classes, the words that calls don't hand on, and what lies below B: texts, the static row, the rows xt -/
def ee_G (D : va_G) (dA : Nat → ClassId) (xa : List Nat) (xt : ee_X) (B : Nat) (U : State) : Prop :=
  va_K D ee_cl (ee_tys dA) U ∧ ((∀ w ∈ ee_nest, va_Nw w U) ∧ va_Nw (.castable "[I" "java/lang/Cloneable") U) ∧ (∀ C ∈ ee_ao, va_AO C U) ∧ (∀ q ∈ ee_str, ∃ a, xa[q.2.2.2]? = some a ∧ vk_R q.1 q.2.1 q.2.2.1 a U ∧ ∃ b, xa[q.2.2.2 + 21]? = some b ∧ ee_txT q.2.2.2 a b B U) ∧
  (∃ a, xa[1]? = some a ∧ va_Z "StoreBufferHeap$Collector" "ROUND" "[I" (.ref a) (fun q => B ≤ q) U U.heap) ∧
  ∀ (j : Nat) (L : List (Nat × Nat)), xt[j]? = some (some L) → ∃ (a : Nat) (cell : Cell), xa[j]? = some a ∧ a < B ∧ U.heap[a]? = some cell ∧ U.isArrayOf cell .int ∧ cell.vm ≠ .unknown ∧ L.length ≤ cell.slots.size ∧ cell.slots.size.toInt32 = Int32.ofNat L.length ∧ ∀ (i : Nat) (q : Nat × Nat), L[i]? = some q → ∃ x : Int32, cell.slots[i]? = some (.int x) ∧ ee_in x q
theorem ee_G_warm {D : va_G} {dA : Nat → ClassId} {xa : List Nat} {xt : ee_X} {B : Nat} {u U : State} (hW : u.WarmedH U.vm) (hh : ∀ q, q < B → U.heap[q]? = u.heap[q]?) (h : ee_G D dA xa xt B u) : ee_G D dA xa xt B U := by
  obtain ⟨h1, ⟨h2, h2c⟩, h3, h4, ⟨a, h5, h6⟩, h7⟩ := h
  refine ⟨va_K.moved hW.alike h1, ⟨fun w hw => ?_, va_Nw.warmC hW h2c⟩, fun C hC => va_AO.moved hW.alike (h3 C hC), fun q hq => ?_, ⟨a, h5, ?_⟩, fun j L hj => ?_⟩
  · have h9 := h2 w hw
    simp only [ee_nest, List.mem_cons, List.not_mem_nil, or_false] at hw
    rcases hw with rfl | rfl | rfl | rfl | rfl | rfl | rfl <;> exact va_Nw.warmM hW h9
  · obtain ⟨a, g1, g2, b, g4, g3⟩ := h4 q hq
    exact ⟨a, g1, vk_R.warm hW g2, b, g4, ee_txT_warm hW.alike hh g3⟩
  · exact (va_Z.moved hW.alike h6).kept (fun q _ hq => hh q (Nat.not_le.mp hq))
  · obtain ⟨a, cell, g1, g2, g3, g4, g5, g6, g66, g7⟩ := h7 j L hj
    exact ⟨a, cell, g1, g2, by rw [hh a g2]; exact g3, State.isArrayOf_alike hW.alike g4, g5, g6, g66, g7⟩
def ee_C (p : Program) (s : State) (m : MethodId) (args : Array Value) (meth : Method) (c : Code) (D : va_G) (dA : Nat → ClassId) (xa : List Nat) (xt : ee_X) (B y : Nat) : Prop :=
  p.tables.exec = Jvm.exec ∧ c.code = ee_cb y ∧ c.maxLocals = ee_ml y ∧ s.vm.findClass (ee_on.getD (ee_yc y) "") = some m.cls ∧ (∀ w ∈ ee_good, w.before args s = true) ∧ ee_G D dA xa xt B s ∧ B ≤ s.heap.size ∧ meth.locks = false ∧ meth.sig.returnType = ee_rt y ∧ meth.name = (ee_yn y).name ∧ y < ee_nM
theorem ee_rsq_spec {y a kind b : Nat} (h : ee_rsq y a kind b = true) : ∃ pos, ee_rs (ee_yc y) a = (kind, b, pos) ∧ ee_rck (ee_yc y) a = true := by
  unfold ee_rsq at h
  simp only [Bool.and_eq_true, decide_eq_true_eq] at h
  obtain ⟨⟨h1, h2⟩, h3, h4⟩ := h
  refine ⟨(ee_rs (ee_yc y) a).2.2, ?_, ?_⟩
  · rw [← Nat.eq_of_beq_eq_true h3, ← Nat.eq_of_beq_eq_true h4]
  · exact List.all_eq_true.mp (ee_rl _ h2) a (List.mem_range.mpr h1)
theorem ee_word {y a kind b : Nat} {w : Cond} (h : ee_rsq y a kind b = true) (h0 : kind ≠ 0) (h6 : kind ≠ 6) (h8 : kind ≠ 8) (hw : ee_wrd (ee_on.getD (ee_yc y) "") a kind b = some w) : w ∈ ee_good := by
  obtain ⟨pos, h1, h2⟩ := ee_rsq_spec h
  unfold ee_rck at h2
  rw [h1] at h2
  dsimp only at h2
  rw [if_neg h0, if_neg h6, if_neg h8, hw] at h2
  exact ee_gw_in (pos := pos) h2
theorem ee_nestw {y a b : Nat} (h : ee_rsq y a 8 b = true) : Cond.methodLinkNest (ee_on.getD (ee_yc y) "") a (ee_yn b) "StoreBufferHeap" ∈ ee_nest := by
  obtain ⟨pos, h1, h2⟩ := ee_rsq_spec h
  unfold ee_rck at h2
  rw [h1] at h2
  dsimp only at h2
  rw [if_neg (by decide), if_neg (by decide), if_pos rfl] at h2
  exact of_decide_eq_true h2
theorem ee_strw {y a b : Nat} (h : ee_rsq y a 6 b = true) : ∃ tx, (ee_on.getD (ee_yc y) "", a, tx, b) ∈ ee_str := by
  obtain ⟨pos, h1, h2⟩ := ee_rsq_spec h
  unfold ee_rck at h2
  rw [h1] at h2
  dsimp only at h2
  rw [if_neg (by decide), if_pos rfl, List.any_eq_true] at h2
  obtain ⟨⟨q1, q2, q3, q4⟩, hq, h3⟩ := h2
  obtain ⟨e1, e2, e3⟩ := of_decide_eq_true h3
  dsimp only at e1 e2 e3
  subst e1; subst e2; subst e3
  exact ⟨q3, hq⟩
theorem ee_sc_spec {y pc : Nat} {i : ee_I} (h : ee_sc y pc i = true) : ∃ q, ee_dec pc i = some q ∧ decode (ee_cb y) pc = .ok q ∧ q.2 = i.2.2.2 ∧ ee_sx y pc i = true ∧ i.1 ≤ 78 := by
  unfold ee_sc at h
  rw [Bool.and_eq_true, Bool.and_eq_true] at h
  obtain ⟨h1, h2, h3⟩ := h
  cases hd : ee_dec pc i with
  | none => rw [hd] at h2; cases h2
  | some q =>
    rw [hd] at h2
    dsimp only at h2
    rw [Bool.and_eq_true] at h2
    exact ⟨q, rfl, of_decide_eq_true h2.1, of_decide_eq_true h2.2, h3, of_decide_eq_true h1⟩
def ee_lp : List (List Nat × Nat × Nat) := [([477, 479, 481, 483, 485, 487, 489], 137, 114), ([162, 164, 166, 168], 145, 115), ([186, 188, 190, 192, 194, 196, 198, 200], 173, 116), ([387, 389, 391, 393, 395, 397, 399, 401, 403, 405, 407, 409, 411, 413], 204, 117), ([265, 267, 269, 271, 273, 275, 277, 279], 236, 119), ([304, 306, 308, 310, 312, 314, 316, 318, 320, 322, 324], 282, 120), ([225, 227, 229, 231, 233], 214, 118), ([432, 434, 436, 438, 440], 417, 122), ([455, 457, 459, 461, 463, 465], 444, 123), ([1049, 1051, 1053, 1055, 1057, 1059, 1061, 1063, 1065, 1067, 1069], 1025, 133), ([1216, 1218, 1220], 1202, 135), ([1273, 1275, 1277, 1279, 1281, 1283, 1285, 1287, 1289, 1291, 1293, 1295, 1297, 1299, 1301, 1303, 1305, 1307, 1309, 1311, 1313, 1315], 1234, 124)]
theorem ee_aw0 : Cond.arrayClass .int ∈ ee_good := ee_gw_in (pos := 171) (by decide +kernel)
theorem ee_aw1 : Cond.arrayClass .long ∈ ee_good := ee_gw_in (pos := 1072) (by decide +kernel)
theorem ee_aw2 : Cond.arrayClass .boolean ∈ ee_good := ee_gw_in (pos := 1318) (by decide +kernel)
theorem ee_ow1 : Cond.instanceMethod objectInit ∈ ee_good := ee_gw_in (pos := 142) (by decide +kernel)
theorem ee_ow2 : Cond.code objectInit ⟨#[0xb1]⟩ 1 none ∈ ee_good := ee_gw_in (pos := 143) (by decide +kernel)
theorem ee_yw1 : Cond.native arraycopyName ∈ ee_good := ee_gw_in (pos := 668) (by decide +kernel)
theorem ee_yw2 : Cond.static arraycopyName ∈ ee_good := ee_gw_in (pos := 667) (by decide +kernel)
theorem ee_yw3 : Cond.initialized "java/lang/System" ∈ ee_good := ee_gw_in (pos := 129) (by decide +kernel)
theorem ee_nw1 : Cond.static Lib.Math.min.name ∈ ee_good := ee_gw_in (pos := 680) (by decide +kernel)
theorem ee_nw2 : Cond.initialized "java/lang/Math" ∈ ee_good := ee_gw_in (pos := 130) (by decide +kernel)
theorem ee_nw3 : Cond.code Lib.Math.min.name Lib.Math.min.code 2 (some .int) ∈ ee_good := ee_gw_in (pos := 681) (by decide +kernel)
def ee_cok (ci : Nat) : Bool := match ee_cx ci, ee_lp.getD ci ([], 0, 0), ee_df ci with
  | (C, T, N), (ps, pI, pN), some fs => (List.range N).all (fun k => ee_gw (ps.getD k 0) (u_lay C T k) && (decide (parseFieldDescriptor (T k).2.2.1 = some (ee_ty ci k) ∧ (T k).1 = C) && ((List.range N).all (fun j => decide (k = j ∨ (T k).2.1 ≠ (T j).2.1))
      && (match ee_fk (64 * ci + k), ee_ty ci k, fs[k]? with
        | 0, .int, some (.inl (2147483648, 2147483648)) => true
        | 1, .boolean, some (.inl (2147483648, 2147483648)) => true
        | 2, .object _, some (.inr (.inl 0)) => true
        | 2, .array _, some (.inr (.inl 0)) => true
        | _, _, _ => false)))) && (ee_gw pI (.instantiable C N) && (ee_gw pN (.initialized C) && decide (fs.length = N)))
  | _, _, none => false
theorem ee_ck0 : ee_cok 0 = true := by decide +kernel
theorem ee_ck1 : ee_cok 1 = true := by decide +kernel
theorem ee_ck2 : ee_cok 2 = true := by decide +kernel
theorem ee_ck3 : ee_cok 3 = true := by decide +kernel
theorem ee_ck4 : ee_cok 4 = true := by decide +kernel
theorem ee_ck5 : ee_cok 5 = true := by decide +kernel
theorem ee_ck6 : ee_cok 6 = true := by decide +kernel
theorem ee_ck7 : ee_cok 7 = true := by decide +kernel
theorem ee_ck8 : ee_cok 8 = true := by decide +kernel
theorem ee_ck9 : ee_cok 9 = true := by decide +kernel
theorem ee_ck10 : ee_cok 10 = true := by decide +kernel
theorem ee_ck11 : ee_cok 11 = true := by decide +kernel
theorem ee_ckl : ∀ ci, ci < 12 → ee_cok ci = true := lt_s (lt_s (lt_s (lt_s (lt_s (lt_s (lt_s (lt_s (lt_s (lt_s (lt_s (lt_s (lt_0) ee_ck0) ee_ck1) ee_ck2) ee_ck3) ee_ck4) ee_ck5) ee_ck6) ee_ck7) ee_ck8) ee_ck9) ee_ck10) ee_ck11
theorem ee_mw1 : Cond.static Lib.Math.max.name ∈ ee_good := ee_gw_in (pos := 1117) (by decide +kernel)
theorem ee_mw3 : Cond.code Lib.Math.max.name Lib.Math.max.code 2 (some .int) ∈ ee_good := ee_gw_in (pos := 1118) (by decide +kernel)
theorem ee_own0 : ee_on.getD (ee_yc 0) "" = (ee_yn 0).cls := by decide +kernel
/-- what the check of a method says -/
theorem ee_mth {y : Nat} (h1 : 1 ≤ y) (h2 : y < ee_nM) : Cond.code (ee_yn y) (ee_cb y) (ee_ml y) (ee_rt y) ∈ ee_good ∧ Cond.initialized (ee_yn y).cls ∈ ee_good ∧ (ee_isI y = false → Cond.static (ee_yn y) ∈ ee_good) ∧ (ee_isI y = true → Cond.instanceMethod (ee_yn y) ∈ ee_good ∧ ((ee_yn y).name ≠ "<init>" → Cond.selects (ee_yn y).cls (ee_yn y) (ee_yn y) ∈ ee_good)) ∧
    plainName (ee_yn y).cls = true ∧ (ee_yn y).cls ≠ "java/lang/invoke/MethodHandle" ∧ (ee_yn y).cls ≠ "java/lang/invoke/VarHandle" ∧ (parseMethodDescriptor (ee_yn y).desc).map (fun d => d.parameters.length) = some (ee_np y) ∧ ee_on.getD (ee_yc y) "" = (ee_yn y).cls ∧ ee_ml y ≤ 21 ∧ ee_na y ≤ ee_ml y ∧ ee_na y = (bif ee_isI y then ee_np y + 1 else ee_np y) ∧
    ee_rk y = (match ee_rt y with | none => 0 | some .int => 1 | some .boolean => 2 | some (.object _) => 3 | some (.array _) => 3 | some .long => 4 | _ => 9) := by
  have h := ee_mck_all h1 h2
  unfold ee_mck at h
  unfold ee_isI ee_rt ee_cb ee_yn
  generalize ee_mr y = q at h ⊢
  obtain ⟨yn, cb, ml, rt, p, ini, st, p2, p3⟩ := q
  dsimp only at h ⊢
  rw [Bool.and_eq_true, Bool.and_eq_true, Bool.and_eq_true, Bool.and_eq_true, Bool.and_eq_true] at h
  obtain ⟨g1, g2, g3, g4, g5, g6⟩ := h
  obtain ⟨a1, a2, a3, a4⟩ := of_decide_eq_true g4
  obtain ⟨b1, b2, b3, b4, b5⟩ := of_decide_eq_true g5
  subst b1
  refine ⟨ee_gw_in g1, ee_gw_in g2, fun z => ?_, fun z => ?_, a1, a2, a3, a4, b2, b3, b4, ?_, of_decide_eq_true g6⟩
  · cases st with
    | false => cases z
    | true => exact ee_gw_in g3
  · cases st with
    | true => cases z
    | false =>
      have g3' : (ee_gw p2 (.instanceMethod yn) && (if yn.name = "<init>" then true else ee_gw p3 (.selects yn.cls yn yn))) = true := g3
      rw [Bool.and_eq_true] at g3'
      refine ⟨ee_gw_in g3'.1, fun z2 => ?_⟩
      have := g3'.2
      rw [if_neg z2] at this
      exact ee_gw_in this
  · rw [b5]
    cases st <;> rfl
theorem ee_own {y : Nat} (h : y < ee_nM) : ee_on.getD (ee_yc y) "" = (ee_yn y).cls := by
  cases y with
  | zero => exact ee_own0
  | succ y => exact (ee_mth (Nat.succ_le_succ (Nat.zero_le y)) h).2.2.2.2.2.2.2.2.1
theorem ee_cname {ci : Nat} (h : ci < ee_cl.length) : (ee_cx ci).1 = ee_on.getD ci "" := by
  have h12 : ci < 12 := h
  have : ∀ k, k < 12 → (ee_cx k).1 = ee_on.getD k "" := by decide +kernel
  exact this ci h12
/-- a constructor answers nothing -/
theorem ee_initv0 : ((List.range ee_nM).all fun y => decide ((ee_yn y).name = "<init>" → ee_rt y = none)) = true := by decide +kernel
theorem ee_initv {y : Nat} (h : y < ee_nM) (h1 : 1 ≤ y) (hn : (ee_yn y).name = "<init>") : ee_rt y = none := of_decide_eq_true (List.all_eq_true.mp ee_initv0 y (List.mem_range.mpr h)) hn
/-- what the check of a class says -/
theorem ee_cls {ci : Nat} (h : ci < 12) : ∃ (C : String) (T : u_T) (N : Nat) (fs : List ee_V), ee_cx ci = (C, T, N) ∧ ee_cl[ci]? = some (C, T, N) ∧ ee_df ci = some fs ∧ fs.length = N ∧ (∀ w ∈ u_ws C T N, w ∈ ee_good) ∧ (∀ k, k < N → parseFieldDescriptor (T k).2.2.1 = some (ee_ty ci k)) ∧ (∀ a, a < N → ∀ b, b < N → a ≠ b → (T a).2.1 ≠ (T b).2.1) ∧
    (∀ k, k < N → (T k).1 = C) ∧ Cond.instantiable C N ∈ ee_good ∧ Cond.initialized C ∈ ee_good ∧
    (∀ k, k < N → (ee_fk (64 * ci + k) = 0 ∧ ee_ty ci k = .int ∧ fs[k]? = some (.inl (2147483648, 2147483648))) ∨ (ee_fk (64 * ci + k) = 1 ∧ ee_ty ci k = .boolean ∧ fs[k]? = some (.inl (2147483648, 2147483648))) ∨ (ee_fk (64 * ci + k) = 2 ∧ ((∃ n, ee_ty ci k = .object n) ∨ ∃ t, ee_ty ci k = .array t) ∧ fs[k]? = some (.inr (.inl 0)))) := by
  have hk := ee_ckl ci h
  have hcl : ee_cl[ci]? = some (ee_cx ci) := by
    show ee_cl[ci]? = some (ee_cl.getD ci _)
    rw [List.getD_eq_getElem?_getD]
    have : ci < ee_cl.length := h
    rw [List.getElem?_eq_getElem this]
    rfl
  unfold ee_cok at hk
  generalize hcx : ee_cx ci = cx at hk hcl
  obtain ⟨C, T, N⟩ := cx
  generalize hlp : ee_lp.getD ci ([], 0, 0) = lp at hk
  obtain ⟨ps, pI, pN⟩ := lp
  cases hdf : ee_df ci with
  | none => rw [hdf] at hk; cases hk
  | some fs =>
    rw [hdf] at hk
    dsimp only at hk
    rw [Bool.and_eq_true, Bool.and_eq_true, Bool.and_eq_true] at hk
    obtain ⟨h1, h2, h3, h4⟩ := hk
    rw [List.all_eq_true] at h1
    have g : ∀ k, k < N → ee_gw (ps.getD k 0) (u_lay C T k) = true ∧ (parseFieldDescriptor (T k).2.2.1 = some (ee_ty ci k) ∧ (T k).1 = C) ∧ (List.range N).all (fun j => decide (k = j ∨ (T k).2.1 ≠ (T j).2.1)) = true ∧ (match ee_fk (64 * ci + k), ee_ty ci k, fs[k]? with
        | 0, .int, some (.inl (2147483648, 2147483648)) => true
        | 1, .boolean, some (.inl (2147483648, 2147483648)) => true
        | 2, .object _, some (.inr (.inl 0)) => true
        | 2, .array _, some (.inr (.inl 0)) => true
        | _, _, _ => false) = true := by
      intro k hkN
      have := h1 k (List.mem_range.mpr hkN)
      rw [Bool.and_eq_true, Bool.and_eq_true, Bool.and_eq_true] at this
      exact ⟨this.1, of_decide_eq_true this.2.1, this.2.2.1, this.2.2.2⟩
    refine ⟨C, T, N, fs, rfl, hcl, rfl, of_decide_eq_true h4, ?_, fun k hkN => (g k hkN).2.1.1, ?_, fun k hkN => (g k hkN).2.1.2, ee_gw_in h2, ee_gw_in h3, fun k hkN => ?_⟩
    · intro w hw
      obtain ⟨k, hk1, rfl⟩ := List.mem_map.mp hw
      exact ee_gw_in (g k (List.mem_range.mp hk1)).1
    · intro a ha b hb hab
      have := List.all_eq_true.mp (g a ha).2.2.1 b (List.mem_range.mpr hb)
      rcases of_decide_eq_true this with q | q
      · exact absurd q hab
      · exact q
    · have := (g k hkN).2.2.2
      generalize ee_fk (64 * ci + k) = fk at this ⊢
      generalize ee_ty ci k = ty at this ⊢
      generalize fs[k]? = fv at this ⊢
      split at this
      · exact Or.inl ⟨rfl, rfl, rfl⟩
      · exact Or.inr (Or.inl ⟨rfl, rfl, rfl⟩)
      · exact Or.inr (Or.inr ⟨rfl, Or.inl ⟨_, rfl⟩, rfl⟩)
      · exact Or.inr (Or.inr ⟨rfl, Or.inr ⟨_, rfl⟩, rfl⟩)
      · cases this
