def ee_lp : List (List Nat × Nat × Nat) := [([477, 479, 481, 483, 485, 487, 489], 137, 114), ([162, 164, 166, 168], 145, 115), ([186, 188, 190, 192, 194, 196, 198, 200], 173, 116), ([387, 389, 391, 393, 395, 397, 399, 401, 403, 405, 407, 409, 411, 413], 204, 117), ([265, 267, 269, 271, 273, 275, 277, 279], 236, 119), ([304, 306, 308, 310, 312, 314, 316, 318, 320, 322, 324], 282, 120), ([225, 227, 229, 231, 233], 214, 118), ([432, 434, 436, 438, 440], 417, 122), ([455, 457, 459, 461, 463, 465], 444, 123), ([1049, 1051, 1053, 1055, 1057, 1059, 1061, 1063, 1065, 1067, 1069], 1025, 133), ([1216, 1218, 1220], 1202, 135), ([1273, 1275, 1277, 1279, 1281, 1283, 1285, 1287, 1289, 1291, 1293, 1295, 1297, 1299, 1301, 1303, 1305, 1307, 1309, 1311, 1313, 1315], 1234, 124)]
theorem ee_aw0 : Cond.arrayClass .int ∈ ee_good := ee_gw_in (pos := 171) (by decide +kernel)
theorem ee_aw1 : Cond.arrayClass .long ∈ ee_good := ee_gw_in (pos := 1072) (by decide +kernel)
theorem ee_aw2 : Cond.arrayClass .boolean ∈ ee_good := ee_gw_in (pos := 1318) (by decide +kernel)
theorem ee_ow1 : Cond.instanceMethod objectInit ∈ ee_good := ee_gw_in (pos := 142) (by decide +kernel)
theorem ee_ow2 : Cond.code objectInit ⟨#[0xb1]⟩ 1 none ∈ ee_good := ee_gw_in (pos := 143) (by decide +kernel)
theorem ee_yw1 : Cond.native arraycopyName ∈ ee_good := ee_gw_in (pos := 668) (by decide +kernel)
theorem ee_yw2 : Cond.static arraycopyName ∈ ee_good := ee_gw_in (pos := 667) (by decide +kernel)
theorem ee_yw3 : Cond.initialized "java/lang/System" ∈ ee_good := ee_gw_in (pos := 129) (by decide +kernel)
theorem ee_nw1 : Cond.static Lib.Math.min.name ∈ ee_good := ee_gw_in (pos := 680) (by decide +kernel)
theorem ee_nw2 : Cond.initialized "java/lang/Math" ∈ ee_good := ee_gw_in (pos := 130) (by decide +kernel)
theorem ee_nw3 : Cond.code Lib.Math.min.name Lib.Math.min.code 2 (some .int) ∈ ee_good := ee_gw_in (pos := 681) (by decide +kernel)
def ee_cok (ci : Nat) : Bool := match ee_cx ci, ee_lp.getD ci ([], 0, 0), ee_df ci with
  | (C, T, N), (ps, pI, pN), some fs => (List.range N).all (fun k => ee_gw (ps.getD k 0) (u_lay C T k) && (decide (parseFieldDescriptor (T k).2.2.1 = some (ee_ty ci k) ∧ (T k).1 = C) && ((List.range N).all (fun j => decide (k = j ∨ (T k).2.1 ≠ (T j).2.1))
      && (match ee_fk (64 * ci + k), ee_ty ci k, fs[k]? with
        | 0, .int, some (.inl (2147483648, 2147483648)) => true
        | 1, .boolean, some (.inl (2147483648, 2147483648)) => true
        | 2, .object _, some (.inr (.inl 0)) => true
        | 2, .array _, some (.inr (.inl 0)) => true
        | _, _, _ => false)))) && (ee_gw pI (.instantiable C N) && (ee_gw pN (.initialized C) && decide (fs.length = N)))
  | _, _, none => false
theorem ee_ck0 : ee_cok 0 = true := by decide +kernel
theorem ee_ck1 : ee_cok 1 = true := by decide +kernel
theorem ee_ck2 : ee_cok 2 = true := by decide +kernel
theorem ee_ck3 : ee_cok 3 = true := by decide +kernel
theorem ee_ck4 : ee_cok 4 = true := by decide +kernel
theorem ee_ck5 : ee_cok 5 = true := by decide +kernel
theorem ee_ck6 : ee_cok 6 = true := by decide +kernel
theorem ee_ck7 : ee_cok 7 = true := by decide +kernel
theorem ee_ck8 : ee_cok 8 = true := by decide +kernel
theorem ee_ck9 : ee_cok 9 = true := by decide +kernel
theorem ee_ck10 : ee_cok 10 = true := by decide +kernel
theorem ee_ck11 : ee_cok 11 = true := by decide +kernel
theorem ee_ckl : ∀ ci, ci < 12 → ee_cok ci = true := lt_s (lt_s (lt_s (lt_s (lt_s (lt_s (lt_s (lt_s (lt_s (lt_s (lt_s (lt_s (lt_0) ee_ck0) ee_ck1) ee_ck2) ee_ck3) ee_ck4) ee_ck5) ee_ck6) ee_ck7) ee_ck8) ee_ck9) ee_ck10) ee_ck11
theorem ee_own0 : ee_on.getD (ee_yc 0) "" = (ee_yn 0).cls := by decide +kernel
/-- what the check of a method says -/
theorem ee_mth {y : Nat} (h1 : 1 ≤ y) (h2 : y < ee_nM) : Cond.code (ee_yn y) (ee_cb y) (ee_ml y) (ee_rt y) ∈ ee_good ∧ Cond.initialized (ee_yn y).cls ∈ ee_good ∧ (ee_isI y = false → Cond.static (ee_yn y) ∈ ee_good) ∧ (ee_isI y = true → Cond.instanceMethod (ee_yn y) ∈ ee_good ∧ ((ee_yn y).name ≠ "<init>" → Cond.selects (ee_yn y).cls (ee_yn y) (ee_yn y) ∈ ee_good)) ∧
    plainName (ee_yn y).cls = true ∧ (ee_yn y).cls ≠ "java/lang/invoke/MethodHandle" ∧ (ee_yn y).cls ≠ "java/lang/invoke/VarHandle" ∧ (parseMethodDescriptor (ee_yn y).desc).map (fun d => d.parameters.length) = some (ee_np y) ∧ ee_on.getD (ee_yc y) "" = (ee_yn y).cls ∧ ee_ml y ≤ 21 ∧ ee_na y ≤ ee_ml y ∧ ee_na y = (bif ee_isI y then ee_np y + 1 else ee_np y) ∧
    ee_rk y = (match ee_rt y with | none => 0 | some .int => 1 | some .boolean => 2 | some (.object _) => 3 | some (.array _) => 3 | _ => 9) := by
  have h := ee_mck_all h1 h2
  unfold ee_mck at h
  unfold ee_isI ee_rt ee_cb ee_yn
  generalize ee_mr y = q at h ⊢
  obtain ⟨yn, cb, ml, rt, p, ini, st, p2, p3⟩ := q
  dsimp only at h ⊢
  rw [Bool.and_eq_true, Bool.and_eq_true, Bool.and_eq_true, Bool.and_eq_true, Bool.and_eq_true] at h
  obtain ⟨g1, g2, g3, g4, g5, g6⟩ := h
  obtain ⟨a1, a2, a3, a4⟩ := of_decide_eq_true g4
  obtain ⟨b1, b2, b3, b4, b5⟩ := of_decide_eq_true g5
  subst b1
  refine ⟨ee_gw_in g1, ee_gw_in g2, fun z => ?_, fun z => ?_, a1, a2, a3, a4, b2, b3, b4, ?_, of_decide_eq_true g6⟩
  · cases st with
    | false => cases z
    | true => exact ee_gw_in g3
  · cases st with
    | true => cases z
    | false =>
      have g3' : (ee_gw p2 (.instanceMethod yn) && (if yn.name = "<init>" then true else ee_gw p3 (.selects yn.cls yn yn))) = true := g3
      rw [Bool.and_eq_true] at g3'
      refine ⟨ee_gw_in g3'.1, fun z2 => ?_⟩
      have := g3'.2
      rw [if_neg z2] at this
      exact ee_gw_in this
  · rw [b5]
    cases st <;> rfl
theorem ee_own {y : Nat} (h : y < ee_nM) : ee_on.getD (ee_yc y) "" = (ee_yn y).cls := by
  cases y with
  | zero => exact ee_own0
  | succ y => exact (ee_mth (Nat.succ_le_succ (Nat.zero_le y)) h).2.2.2.2.2.2.2.2.1
theorem ee_cname {ci : Nat} (h : ci < ee_cl.length) : (ee_cx ci).1 = ee_on.getD ci "" := by
  have h12 : ci < 12 := h
  have : ∀ k, k < 12 → (ee_cx k).1 = ee_on.getD k "" := by decide +kernel
  exact this ci h12
/-- a constructor answers nothing -/
theorem ee_initv0 : ((List.range ee_nM).all fun y => decide ((ee_yn y).name = "<init>" → ee_rt y = none)) = true := by decide +kernel
theorem ee_initv {y : Nat} (h : y < ee_nM) (h1 : 1 ≤ y) (hn : (ee_yn y).name = "<init>") : ee_rt y = none := of_decide_eq_true (List.all_eq_true.mp ee_initv0 y (List.mem_range.mpr h)) hn
