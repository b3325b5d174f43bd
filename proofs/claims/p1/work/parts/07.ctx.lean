/-! ===== what holds at a method's start, and the goal at a described state ===== -/
def ee_tys (dA : Nat → ClassId) : List (ClassId × FieldType) := [(dA 0, .int), (dA 1, .long), (dA 2, .boolean), (dA 3, .object ee_c4), (dA 4, .object ee_c5), (dA 5, .object ee_c3), (dA 6, .object ee_c10)]
def ee_ao : List String := [ee_c4, ee_c5, ee_c3, ee_c10]
abbrev ee_X : Type := List (Option (List (Nat × Nat)))
/-- the classes, the words that calls don't hand on, and what lies below B: texts, the static row, the rows xt -/
def ee_G (D : va_G) (dA : Nat → ClassId) (xa : List Nat) (xt : ee_X) (B : Nat) (U : State) : Prop :=
  va_K D ee_cl (ee_tys dA) U ∧ (∀ w ∈ ee_nest, va_Nw w U) ∧ (∀ C ∈ ee_ao, va_AO C U) ∧ (∀ q ∈ ee_str, ∃ a, xa[q.2.2.2]? = some a ∧ vk_R q.1 q.2.1 q.2.2.1 a U) ∧
  (∃ a, xa[1]? = some a ∧ va_Z "StoreBufferHeap$Collector" "ROUND" "[I" (.ref a) (fun q => B ≤ q) U U.heap) ∧
  ∀ (j : Nat) (L : List (Nat × Nat)), xt[j]? = some (some L) → ∃ (a : Nat) (cell : Cell), xa[j]? = some a ∧ a < B ∧ U.heap[a]? = some cell ∧ U.isArrayOf cell .int ∧ cell.vm ≠ .unknown ∧ L.length ≤ cell.slots.size ∧ cell.slots.size.toInt32 = Int32.ofNat L.length ∧ ∀ (i : Nat) (q : Nat × Nat), L[i]? = some q → ∃ x : Int32, cell.slots[i]? = some (.int x) ∧ ee_in x q
theorem ee_G_warm {D : va_G} {dA : Nat → ClassId} {xa : List Nat} {xt : ee_X} {B : Nat} {u U : State} (hW : u.WarmedH U.vm) (hh : ∀ q, q < B → U.heap[q]? = u.heap[q]?) (h : ee_G D dA xa xt B u) : ee_G D dA xa xt B U := by
  obtain ⟨h1, h2, h3, h4, ⟨a, h5, h6⟩, h7⟩ := h
  refine ⟨va_K.moved hW.alike h1, fun w hw => ?_, fun C hC => va_AO.moved hW.alike (h3 C hC), fun q hq => ?_, ⟨a, h5, ?_⟩, fun j L hj => ?_⟩
  · have h9 := h2 w hw
    simp only [ee_nest, List.mem_cons, List.not_mem_nil, or_false] at hw
    rcases hw with rfl | rfl | rfl | rfl <;> exact va_Nw.warmM hW h9
  · obtain ⟨a, g1, g2⟩ := h4 q hq
    exact ⟨a, g1, vk_R.warm hW g2⟩
  · exact (va_Z.moved hW.alike h6).kept (fun q _ hq => hh q (Nat.not_le.mp hq))
  · obtain ⟨a, cell, g1, g2, g3, g4, g5, g6, g66, g7⟩ := h7 j L hj
    exact ⟨a, cell, g1, g2, by rw [hh a g2]; exact g3, State.isArrayOf_alike hW.alike g4, g5, g6, g66, g7⟩
def ee_C (p : Program) (s : State) (m : MethodId) (args : Array Value) (meth : Method) (c : Code) (D : va_G) (dA : Nat → ClassId) (xa : List Nat) (xt : ee_X) (B y : Nat) : Prop :=
  p.tables.exec = Jvm.exec ∧ c.code = ee_cb y ∧ c.maxLocals = ee_ml y ∧ s.vm.findClass (ee_on.getD (ee_yc y) "") = some m.cls ∧ (∀ w ∈ ee_good, w.before args s = true) ∧ ee_G D dA xa xt B s ∧ B ≤ s.heap.size ∧ meth.locks = false ∧ meth.sig.returnType = ee_rt y ∧ meth.name = (ee_yn y).name ∧ y < ee_nM
/-- the goal: from every state of the machine that the description fits -/
def ee_WS (p : Program) (l : Launch) (e : Env) (R : Room) (s : State) (m : MethodId) (args : Array Value) (below : List Frame) (meth : Method) (c : Code) (Q : State → Prop) (D : va_G) (dA : Nat → ClassId) (xa : List Nat) (B : Nat) (ad0 : List Nat) (y : Nat) (S : ee_S) : Prop :=
  ∀ (ad : List Nat) (ws : va_W) (H : Heap) (locs : List Loc) (ls : Array Slot) (vs : List Value), ad0 <+: ad → ee_wd dA ad xa ws S.2.2.2.1 → va_P D ee_cl ws H → va_D (fun q => B ≤ q) ws → va_S (fun q => B ≤ q) s.heap H locs → ee_lo ad xa ls (ee_ml y) S.2.1 → ee_a2 (ee_ok ad xa) vs S.2.2.1 →
    W p l e R s m args below meth c H locs S.2.2.2.2.1 S.2.2.2.2.2 Q (F0 m S.1 ls vs)
theorem ee_rsq_spec {y a kind b : Nat} (h : ee_rsq y a kind b = true) : ∃ pos, ee_rs (ee_yc y) a = (kind, b, pos) ∧ ee_rck (ee_yc y) a = true := by
  unfold ee_rsq at h
  simp only [Bool.and_eq_true, decide_eq_true_eq] at h
  obtain ⟨⟨h1, h2⟩, h3, h4⟩ := h
  refine ⟨(ee_rs (ee_yc y) a).2.2, ?_, ?_⟩
  · rw [← Nat.eq_of_beq_eq_true h3, ← Nat.eq_of_beq_eq_true h4]
  · exact List.all_eq_true.mp (ee_rl _ h2) a (List.mem_range.mpr h1)
theorem ee_word {y a kind b : Nat} {w : Cond} (h : ee_rsq y a kind b = true) (h0 : kind ≠ 0) (h6 : kind ≠ 6) (h8 : kind ≠ 8) (hw : ee_wrd (ee_on.getD (ee_yc y) "") a kind b = some w) : w ∈ ee_good := by
  obtain ⟨pos, h1, h2⟩ := ee_rsq_spec h
  unfold ee_rck at h2
  rw [h1] at h2
  dsimp only at h2
  rw [if_neg h0, if_neg h6, if_neg h8, hw] at h2
  exact ee_gw_in (pos := pos) h2
theorem ee_nestw {y a b : Nat} (h : ee_rsq y a 8 b = true) : Cond.methodLinkNest (ee_on.getD (ee_yc y) "") a (ee_yn b) "StoreBufferHeap" ∈ ee_nest := by
  obtain ⟨pos, h1, h2⟩ := ee_rsq_spec h
  unfold ee_rck at h2
  rw [h1] at h2
  dsimp only at h2
  rw [if_neg (by decide), if_neg (by decide), if_pos rfl] at h2
  exact of_decide_eq_true h2
theorem ee_strw {y a b : Nat} (h : ee_rsq y a 6 b = true) : ∃ tx, (ee_on.getD (ee_yc y) "", a, tx, b) ∈ ee_str := by
  obtain ⟨pos, h1, h2⟩ := ee_rsq_spec h
  unfold ee_rck at h2
  rw [h1] at h2
  dsimp only at h2
  rw [if_neg (by decide), if_pos rfl, List.any_eq_true] at h2
  obtain ⟨⟨q1, q2, q3, q4⟩, hq, h3⟩ := h2
  obtain ⟨e1, e2, e3⟩ := of_decide_eq_true h3
  dsimp only at e1 e2 e3
  subst e1; subst e2; subst e3
  exact ⟨q3, hq⟩
theorem ee_sc_spec {y pc : Nat} {i : ee_I} (h : ee_sc y pc i = true) : ∃ q, ee_dec pc i = some q ∧ decode (ee_cb y) pc = .ok q ∧ q.2 = i.2.2.2 ∧ ee_sx y pc i = true ∧ i.1 ≤ 55 := by
  unfold ee_sc at h
  rw [Bool.and_eq_true, Bool.and_eq_true] at h
  obtain ⟨h1, h2, h3⟩ := h
  cases hd : ee_dec pc i with
  | none => rw [hd] at h2; cases h2
  | some q =>
    rw [hd] at h2
    dsimp only at h2
    rw [Bool.and_eq_true] at h2
    exact ⟨q, rfl, of_decide_eq_true h2.1, of_decide_eq_true h2.2, h3, of_decide_eq_true h1⟩
