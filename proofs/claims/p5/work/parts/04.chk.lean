/-! ===== what the program says is what the Statement's bytes and words say ===== -/
def ee_cc (n : Nat) : ClassFile.Cond := match n with
  | 0 => .eq
  | 1 => .ne
  | 2 => .lt
  | 3 => .ge
  | 4 => .gt
  | _ => .le
def ee_atp (t : Nat) : ArrayType := match t with
  | 0 => .int
  | 1 => .long
  | _ => .boolean
/-- the instruction that is meant, and its length -/
def ee_dec (pc : Nat) (i : ee_I) : Option (Instr × Nat) := match i.1 with
  | 1 => if i.2.2.1 = 0 then some (.iload i.2.1, 2) else some (.iload_n (Fin.ofNat 4 i.2.1), 1)
  | 2 => if i.2.2.1 = 0 then some (.aload i.2.1, 2) else some (.aload_n (Fin.ofNat 4 i.2.1), 1)
  | 3 => if i.2.2.1 = 0 then some (.istore i.2.1, 2) else some (.istore_n (Fin.ofNat 4 i.2.1), 1)
  | 4 => if i.2.2.1 = 0 then some (.astore i.2.1, 2) else some (.astore_n (Fin.ofNat 4 i.2.1), 1)
  | 5 => if i.2.2.1 = 0 then some (.iconst ((i.2.1 : Int) - 2147483648), 1) else if i.2.2.1 = 1 then some (.bipush ((i.2.1 : Int) - 2147483648), 2) else some (.sipush ((i.2.1 : Int) - 2147483648), 3)
  | 6 => some (.ldc i.2.1, 2)
  | 7 => some (.ldc i.2.1, 2)
  | 8 => some (.aconst_null, 1)
  | 9 => some (.iinc i.2.1 ((i.2.2.1 : Int) - 2147483648), 3)
  | 10 => some (.iadd, 1)
  | 11 => some (.isub, 1)
  | 12 => some (.imul, 1)
  | 13 => some (.iand, 1)
  | 14 => some (.ior, 1)
  | 15 => some (.ixor, 1)
  | 16 => some (.ishl, 1)
  | 17 => some (.ishr, 1)
  | 18 => some (.iushr, 1)
  | 19 => some (.idiv, 1)
  | 20 => some (.irem, 1)
  | 22 => some (.dup, 1)
  | 23 => some (.dup2, 1)
  | 24 => some (.pop, 1)
  | 25 => some (.getfield i.2.1, 3)
  | 26 => some (.putfield i.2.1, 3)
  | 27 => some (.getstatic i.2.1, 3)
  | 28 => some (.iaload, 1)
  | 29 => some (.iastore, 1)
  | 30 => some (.aaload, 1)
  | 31 => some (.aastore, 1)
  | 32 => some (.baload, 1)
  | 33 => some (.bastore, 1)
  | 34 => some (.arraylength, 1)
  | 35 => some (.new i.2.1, 3)
  | 36 => some (.newarray (ee_atp i.2.1), 2)
  | 37 => some (.anewarray i.2.1, 3)
  | 38 => some (.invokespecial i.2.1, 3)
  | 39 => some (.invokespecial i.2.1, 3)
  | 40 => some (.invokevirtual i.2.1, 3)
  | 41 => some (.invokestatic i.2.1, 3)
  | 42 => some (.invokestatic i.2.1, 3)
  | 43 => some (.invokestatic i.2.1, 3)
  | 44 => some (.if_icmp (ee_cc i.2.1) ((i.2.2.1 : Int) - pc), 3)
  | 45 => some (.ifCond (ee_cc i.2.1) ((i.2.2.1 : Int) - pc), 3)
  | 46 => some (.ifnull ((i.2.2.1 : Int) - pc), 3)
  | 47 => some (.ifnonnull ((i.2.2.1 : Int) - pc), 3)
  | 48 => some (.goto ((i.2.2.1 : Int) - pc), 3)
  | 49 => some (.tableswitch (ee_tsi i.2.1).1 (ee_tsi i.2.1).2.1 (ee_tsi i.2.1).2.2.1 (ee_tsi i.2.1).2.2.2, i.2.2.1)
  | 50 => some (.lookupswitch (ee_lsi i.2.1).1 (ee_lsi i.2.1).2, i.2.2.1)
  | 51 => some (.ireturn, 1)
  | 52 => some (.areturn, 1)
  | 53 => some (.return_, 1)
  | 54 => some (.ldc_w i.2.1, 3)
  | 55 => some (.invokestatic i.2.1, 3)
  | 56 => if i.2.2.1 = 0 then some (.lload i.2.1, 2) else some (.lload_n (Fin.ofNat 4 i.2.1), 1)
  | 57 => if i.2.2.1 = 0 then some (.lstore i.2.1, 2) else some (.lstore_n (Fin.ofNat 4 i.2.1), 1)
  | 58 => some (.lconst (Fin.ofNat 2 i.2.1), 1)
  | 59 => some (.ldc2_w i.2.1, 3)
  | 60 => some (.ladd, 1)
  | 61 => some (.lsub, 1)
  | 62 => some (.lmul, 1)
  | 63 => some (.land, 1)
  | 64 => some (.lor, 1)
  | 65 => some (.lxor, 1)
  | 66 => some (.lshl, 1)
  | 67 => some (.lshr, 1)
  | 68 => some (.lushr, 1)
  | 69 => some (.lcmp, 1)
  | 70 => some (.i2l, 1)
  | 71 => some (.l2i, 1)
  | 72 => some (.laload, 1)
  | 73 => some (.lastore, 1)
  | 74 => some (.lreturn, 1)
  | 75 => some (.i2c, 1)
  | 76 => some (.invokestatic i.2.1, 3)
  | 77 => some (.invokevirtual i.2.1, 3)
  | 78 => some (.invokevirtual i.2.1, 3)
  | _ => none
/-- a class of ours: its name, fields, how many -/
def ee_cx (ci : Nat) : vw_C := ee_cl.getD ci (ee_c0, ee_T0, 0)
def ee_rsq (y a kind b : Nat) : Bool := decide (a < ee_nA ∧ ee_yc y < ee_nO) && (Nat.beq (ee_rs (ee_yc y) a).1 kind && Nat.beq (ee_rs (ee_yc y) a).2.1 b)
def ee_isI (y : Nat) : Bool := !(ee_mr y).2.2.2.2.2.2.1
def ee_tsk (pc : Nat) (t : Nat × Nat × List Nat) (u : Int × Int × Int × Array Int) : Bool :=
  decide ((t.1 : Int) - 2147483648 = u.2.1) && (decide ((pc : Int) + u.1 = (t.2.1 : Int)) && (decide (u.2.2.1 - u.2.1 + 1 = (t.2.2.length : Int)) && decide (u.2.2.2.toList.map (fun o => (pc : Int) + o) = t.2.2.map (fun n : Nat => (n : Int)))))
def ee_lsk (pc : Nat) (t : Nat × List (Nat × Nat)) (u : Int × Array (Int × Int)) : Bool :=
  decide ((pc : Int) + u.1 = (t.1 : Int)) && (decide (u.2.toList.map (fun q : Int × Int => (q.1 + 2147483648, (pc : Int) + q.2)) = t.2.map (fun q : Nat × Nat => ((q.1 : Int), (q.2 : Int)))) && (u.2.toList.zip (u.2.toList.drop 1)).all (fun (a, next) => a.1 < next.1))
def ee_sx (y pc : Nat) (i : ee_I) : Bool := match i.1 with
  | 1 => decide (i.2.2.1 = 0 ∨ i.2.1 < 4)
  | 2 => decide (i.2.2.1 = 0 ∨ i.2.1 < 4)
  | 3 => decide (i.2.2.1 = 0 ∨ i.2.1 < 4)
  | 4 => decide (i.2.2.1 = 0 ∨ i.2.1 < 4)
  | 5 => decide (i.2.1 < 4294967296) && (if i.2.2.1 = 0 then true else if i.2.2.1 = 1 then decide ((Int8.ofInt ((i.2.1 : Int) - 2147483648)).toInt32 = ee_x i.2.1) else decide ((Int16.ofInt ((i.2.1 : Int) - 2147483648)).toInt32 = ee_x i.2.1))
  | 6 => decide (i.2.2.1 < 4294967296) && ee_rsq y i.2.1 5 i.2.2.1
  | 54 => decide (i.2.2.1 < 4294967296) && ee_rsq y i.2.1 5 i.2.2.1
  | 7 => ee_rsq y i.2.1 6 i.2.2.1
  | 9 => decide (i.2.2.1 < 4294967296)
  | 25 => ee_rsq y i.2.1 1 i.2.2.1 && decide (i.2.2.1 / 64 < ee_cl.length ∧ i.2.2.1 % 64 < (ee_cx (i.2.2.1 / 64)).2.2)
  | 26 => ee_rsq y i.2.1 1 i.2.2.1 && (decide (i.2.2.1 / 64 < ee_cl.length ∧ i.2.2.1 % 64 < (ee_cx (i.2.2.1 / 64)).2.2) && (!((ee_cx (i.2.2.1 / 64)).2.1 (i.2.2.1 % 64)).2.2.2 || decide ((ee_yn y).name = "<init>" ∧ ((ee_cx (i.2.2.1 / 64)).2.1 (i.2.2.1 % 64)).1 = (ee_yn y).cls)))
  | 27 => ee_rsq y i.2.1 7 i.2.2.1 && decide (i.2.2.1 = 1)
  | 35 => ee_rsq y i.2.1 3 i.2.2.1 && decide (i.2.2.1 < ee_cl.length)
  | 36 => decide (i.2.1 ≤ 2)
  | 37 => ee_rsq y i.2.1 3 (ee_ec i.2.2.1) && decide (3 ≤ i.2.2.1 ∧ i.2.2.1 ≤ 6)
  | 38 => ee_rsq y i.2.1 10 0
  | 39 => ee_rsq y i.2.1 2 i.2.2.1 && (decide (i.2.2.1 < ee_nM ∧ (ee_yn i.2.2.1).name = "<init>") && ee_isI i.2.2.1)
  | 40 => ee_rsq y i.2.1 2 i.2.2.1 && (decide (i.2.2.1 < ee_nM ∧ ee_yc i.2.2.1 < ee_cl.length ∧ ¬ (ee_yn i.2.2.1).name = "<init>") && ee_isI i.2.2.1)
  | 41 => ee_rsq y i.2.1 2 i.2.2.1 && (decide (i.2.2.1 < ee_nM) && !ee_isI i.2.2.1)
  | 42 => ee_rsq y i.2.1 8 i.2.2.1 && (decide (i.2.2.1 < ee_nM) && !ee_isI i.2.2.1)
  | 43 => ee_rsq y i.2.1 9 0
  | 55 => ee_rsq y i.2.1 11 0
  | 56 => decide (i.2.2.1 = 0 ∨ i.2.1 < 4)
  | 57 => decide (i.2.2.1 = 0 ∨ i.2.1 < 4)
  | 58 => decide (i.2.1 < 2)
  | 59 => ee_rsq y i.2.1 15 i.2.2.1
  | 76 => ee_rsq y i.2.1 12 0
  | 77 => ee_rsq y i.2.1 13 0
  | 78 => ee_rsq y i.2.1 14 0
  | 49 => ee_tsk pc (ee_ts i.2.1) (ee_tsi i.2.1)
  | 50 => ee_lsk pc (ee_ls i.2.1) (ee_lsi i.2.1)
  | _ => true
def ee_sc (y pc : Nat) (i : ee_I) : Bool := decide (i.1 ≤ 78) && ((match ee_dec pc i with
  | some q => decide (decode (ee_cb y) pc = .ok q) && decide (q.2 = i.2.2.2)
  | none => false) && ee_sx y pc i)
def ee_scr (y lo n : Nat) : Bool := (List.range n).all (fun k => match ee_pg y (lo + k) with
  | none => true
  | some i => ee_sc y (lo + k) i)
theorem ee_scr_app {y lo n k : Nat} (h1 : ee_scr y lo n = true) (h2 : ee_scr y (lo + n) k = true) : ee_scr y lo (n + k) = true := by
  unfold ee_scr at *
  rw [List.all_eq_true] at *
  intro j hj
  rw [List.mem_range] at hj
  by_cases hn : j < n
  · exact h1 j (List.mem_range.mpr hn)
  · have := h2 (j - n) (List.mem_range.mpr (by omega))
    rw [show lo + n + (j - n) = lo + j by omega] at this
    exact this
theorem ee_scr_at {y lo n : Nat} (h : ee_scr y lo n = true) {pc : Nat} (h1 : lo ≤ pc) (h2 : pc < lo + n) {i : ee_I} (hi : ee_pg y pc = some i) : ee_sc y pc i = true := by
  unfold ee_scr at h
  rw [List.all_eq_true] at h
  have := h (pc - lo) (List.mem_range.mpr (by omega))
  rw [show lo + (pc - lo) = pc by omega, hi] at this
  exact this
/-! the words: of a class's pool entry, and of a method -/
def ee_wrd (own : String) (a kind b : Nat) : Option Cond := match kind with
  | 1 => some (.fieldLink own a (ee_cx (b / 64)).1 ((ee_cx (b / 64)).2.1 (b % 64)).2.1 ((ee_cx (b / 64)).2.1 (b % 64)).2.2.1)
  | 2 => some (.methodLink own a (ee_yn b))
  | 3 => some (.classLink own a (ee_cx b).1)
  | 5 => some (.constant own a (ee_x b))
  | 7 => some (.fieldLink own a "StoreBufferHeap$Collector" "ROUND" "[I")
  | 9 => some (.methodLink own a arraycopyName)
  | 10 => some (.methodLink own a objectInit)
  | 11 => some (.methodLink own a Lib.Math.min.name)
  | 12 => some (.methodLink own a Lib.Math.max.name)
  | 13 => some (.methodLink own a ⟨"java/lang/String", "length", "()I"⟩)
  | 14 => some (.methodLink own a ⟨"java/lang/String", "charAt", "(I)C"⟩)
  | 15 => some (.constantLong own a (Int64.ofNat b))
  | _ => none
def ee_rck (c a : Nat) : Bool := match ee_rs c a with
  | (kind, b, pos) => if kind = 0 then true else if kind = 6 then ee_str.any (fun q => decide (q.1 = ee_on.getD c "" ∧ q.2.1 = a ∧ q.2.2.2 = b)) else if kind = 8 then decide (Cond.methodLinkNest (ee_on.getD c "") a (ee_yn b) "StoreBufferHeap" ∈ ee_nest) else match ee_wrd (ee_on.getD c "") a kind b with
    | some w => decide (lw_tbl[pos]? = some w) && goodWord w
    | none => false
/-- the words that a call may hand on -/
def ee_good : List Cond := lw_tbl.filter goodWord
def ee_gw (pos : Nat) (w : Cond) : Bool := decide (lw_tbl[pos]? = some w) && goodWord w
theorem ee_gw_in {pos : Nat} {w : Cond} (h : ee_gw pos w = true) : w ∈ ee_good := by
  unfold ee_gw at h
  rw [Bool.and_eq_true] at h
  exact List.mem_filter.mpr ⟨List.mem_of_getElem? (of_decide_eq_true h.1), h.2⟩
/-- a method: its words, and what else calls want -/
def ee_mck (y : Nat) : Bool := match ee_mr y with
  | (yn, cb, ml, rt, p, ini, st, p2, p3) => ee_gw p (.code yn cb ml rt) && (ee_gw ini (.initialized yn.cls) && ((bif st then ee_gw p2 (.static yn) else (ee_gw p2 (.instanceMethod yn) && (if yn.name = "<init>" then true else ee_gw p3 (.selects yn.cls yn yn))))
    && (decide (plainName yn.cls = true ∧ yn.cls ≠ "java/lang/invoke/MethodHandle" ∧ yn.cls ≠ "java/lang/invoke/VarHandle" ∧ (parseMethodDescriptor yn.desc).map (fun d => d.parameters.length) = some (ee_np y)) && (decide (ee_ml y = ml ∧ ee_on.getD (ee_yc y) "" = yn.cls ∧ ml ≤ 21 ∧ ee_na y ≤ ml ∧ ee_na y = (bif st then ee_np y else ee_np y + 1))
    && decide (ee_rk y = (match rt with | none => 0 | some .int => 1 | some .boolean => 2 | some (.object _) => 3 | some (.array _) => 3 | some .long => 4 | _ => 9))))))
