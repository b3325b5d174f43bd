/-! ===== each instruction of the tables, by the values that stand there ===== -/
theorem ee_two {b : Nat} {X Y q : Instr × Nat} (hq : (if b = 0 then some X else some Y) = some q) : (b = 0 ∧ q = X) ∨ (b ≠ 0 ∧ q = Y) := by
  by_cases h : b = 0
  · rw [if_pos h] at hq; cases hq; exact Or.inl ⟨h, rfl⟩
  · rw [if_neg h] at hq; cases hq; exact Or.inr ⟨h, rfl⟩
theorem ee_fin4 {a b : Nat} (hx : decide (b = 0 ∨ a < 4) = true) (hb : b ≠ 0) : ((Fin.ofNat 4 a : Fin 4) : Nat) = a := by
  have h := of_decide_eq_true hx
  show a % 4 = a
  omega
section SM
variable {p : Program} {l : Launch} {e : Env} {R : Room} {s : State} {m : MethodId} {args : Array Value} {below : List Frame} {meth : Method} {c : Code} {Q : State → Prop} {D : va_G} {dA : Nat → ClassId} {xa : List Nat} {xt : ee_X} {B : Nat} {y : Nat}
variable {pc a b n : Nat} {H : Heap} {locs : List Loc} {cells slots : Nat} {ls : Array Slot} {vs : List Value}
theorem sm_1 (hC : ee_C p s m args meth c D dA xa xt B y) (hs : ee_sc y pc (1, a, b, n) = true) {x : Int32} (hv : ls[a]? = some (.val (.int x))) (k : W p l e R s m args below meth c H locs cells slots Q (F0 m (pc + n) ls (.int x :: vs))) : W p l e R s m args below meth c H locs cells slots Q (F0 m pc ls vs) := by
  obtain ⟨q, hq, hd, hn, hx, -⟩ := ee_sc_spec hs
  obtain ⟨he, hb, -⟩ := id hC
  rcases ee_two hq with ⟨-, rfl⟩ | ⟨hb0, rfl⟩
  · cases hn
    exact lv_iload he hb hd hv k
  · cases hn
    exact lv_iload_n he hb hd (ee_fin4 hx hb0) hv k
theorem sm_2 (hC : ee_C p s m args meth c D dA xa xt B y) (hs : ee_sc y pc (2, a, b, n) = true) {v : Value} (hr : v = .null ∨ ∃ x, v = .ref x) (hv : ls[a]? = some (.val v)) (k : W p l e R s m args below meth c H locs cells slots Q (F0 m (pc + n) ls (v :: vs))) : W p l e R s m args below meth c H locs cells slots Q (F0 m pc ls vs) := by
  obtain ⟨q, hq, hd, hn, hx, -⟩ := ee_sc_spec hs
  obtain ⟨he, hb, -⟩ := id hC
  rcases ee_two hq with ⟨-, rfl⟩ | ⟨hb0, rfl⟩
  · cases hn
    rcases hr with rfl | ⟨x, rfl⟩
    · exact lv_aloadN he hb hd hv k
    · exact lv_aload he hb hd hv k
  · cases hn
    rcases hr with rfl | ⟨x, rfl⟩
    · exact lv_aload_nN he hb hd (ee_fin4 hx hb0) hv k
    · exact lv_aload_n he hb hd (ee_fin4 hx hb0) hv k
theorem sm_3 (hC : ee_C p s m args meth c D dA xa xt B y) (hs : ee_sc y pc (3, a, b, n) = true) {x : Int32} {nL : Nat} {lv : List (Nat × Value)} (hl : lv_has ls nL lv) (ha : a < nL)
    (k : ∀ ls', lv_has ls' nL ((a, .int x) :: lv.filter (fun q => !(q.1 == a) && !(q.1 + 1 == a && q.2.category == 2))) → W p l e R s m args below meth c H locs cells slots Q (F0 m (pc + n) ls' vs)) : W p l e R s m args below meth c H locs cells slots Q (F0 m pc ls (.int x :: vs)) := by
  obtain ⟨q, hq, hd, hn, hx, -⟩ := ee_sc_spec hs
  obtain ⟨he, hb, -⟩ := id hC
  rcases ee_two hq with ⟨-, rfl⟩ | ⟨hb0, rfl⟩
  · cases hn
    exact lv_istore he hb hd hl ha rfl k
  · cases hn
    exact lv_istore_n he hb hd (ee_fin4 hx hb0) hl ha rfl k
theorem sm_4 (hC : ee_C p s m args meth c D dA xa xt B y) (hs : ee_sc y pc (4, a, b, n) = true) {v : Value} (hr : v = .null ∨ ∃ x, v = .ref x) {nL : Nat} {lv : List (Nat × Value)} (hl : lv_has ls nL lv) (ha : a < nL)
    (k : ∀ ls', lv_has ls' nL ((a, v) :: lv.filter (fun q => !(q.1 == a) && !(q.1 + 1 == a && q.2.category == 2))) → W p l e R s m args below meth c H locs cells slots Q (F0 m (pc + n) ls' vs)) : W p l e R s m args below meth c H locs cells slots Q (F0 m pc ls (v :: vs)) := by
  obtain ⟨q, hq, hd, hn, hx, -⟩ := ee_sc_spec hs
  obtain ⟨he, hb, -⟩ := id hC
  rcases ee_two hq with ⟨-, rfl⟩ | ⟨hb0, rfl⟩
  · cases hn
    rcases hr with rfl | ⟨x, rfl⟩
    · exact lv_astoreN he hb hd hl ha rfl k
    · exact lv_astore he hb hd hl ha rfl k
  · cases hn
    rcases hr with rfl | ⟨x, rfl⟩
    · exact lv_astore_nN he hb hd (ee_fin4 hx hb0) hl ha rfl k
    · exact lv_astore_n he hb hd (ee_fin4 hx hb0) hl ha rfl k
theorem sm_56 (hC : ee_C p s m args meth c D dA xa xt B y) (hs : ee_sc y pc (56, a, b, n) = true) {x : Int64} (hv : ls[a]? = some (.val (.long x))) (k : W p l e R s m args below meth c H locs cells slots Q (F0 m (pc + n) ls (.long x :: vs))) : W p l e R s m args below meth c H locs cells slots Q (F0 m pc ls vs) := by
  obtain ⟨q, hq, hd, hn, hx, -⟩ := ee_sc_spec hs
  obtain ⟨he, hb, -⟩ := id hC
  rcases ee_two hq with ⟨-, rfl⟩ | ⟨hb0, rfl⟩
  · cases hn
    exact lv_lload he hb hd hv k
  · cases hn
    exact lv_lload_n he hb hd (ee_fin4 hx hb0) hv k
theorem sm_57 (hC : ee_C p s m args meth c D dA xa xt B y) (hs : ee_sc y pc (57, a, b, n) = true) {x : Int64} {nL : Nat} {lv : List (Nat × Value)} (hl : lv_has ls nL lv) (ha : a + 1 < nL)
    (k : ∀ ls', lv_has ls' nL ((a, .long x) :: lv.filter (fun q => !(q.1 == a) && (!(q.1 == a + 1) && !(q.1 + 1 == a && q.2.category == 2)))) → W p l e R s m args below meth c H locs cells slots Q (F0 m (pc + n) ls' vs)) : W p l e R s m args below meth c H locs cells slots Q (F0 m pc ls (.long x :: vs)) := by
  obtain ⟨q, hq, hd, hn, hx, -⟩ := ee_sc_spec hs
  obtain ⟨he, hb, -⟩ := id hC
  rcases ee_two hq with ⟨-, rfl⟩ | ⟨hb0, rfl⟩
  · cases hn
    exact lv_lstore he hb hd hl ha rfl k
  · cases hn
    exact lv_lstore_n he hb hd (ee_fin4 hx hb0) hl ha rfl k
theorem sm_5 (hC : ee_C p s m args meth c D dA xa xt B y) (hs : ee_sc y pc (5, a, b, n) = true) (k : a < 4294967296 → W p l e R s m args below meth c H locs cells slots Q (F0 m (pc + n) ls (.int (ee_x a) :: vs))) : W p l e R s m args below meth c H locs cells slots Q (F0 m pc ls vs) := by
  obtain ⟨q, hq, hd, hn, hx, -⟩ := ee_sc_spec hs
  obtain ⟨he, hb, -⟩ := id hC
  have hx' : (decide (a < 4294967296) && (if b = 0 then true else if b = 1 then decide ((Int8.ofInt ((a : Int) - 2147483648)).toInt32 = ee_x a) else decide ((Int16.ofInt ((a : Int) - 2147483648)).toInt32 = ee_x a))) = true := hx
  rw [Bool.and_eq_true] at hx'
  have k' := k (of_decide_eq_true hx'.1)
  have hq' : (if b = 0 then some (Instr.iconst ((a : Int) - 2147483648), 1) else if b = 1 then some (Instr.bipush ((a : Int) - 2147483648), 2) else some (Instr.sipush ((a : Int) - 2147483648), 3)) = some q := hq
  by_cases h0 : b = 0
  · rw [if_pos h0] at hq'
    cases hq'
    cases hn
    exact lv_iconst he hb hd rfl k'
  · have hx2 := hx'.2
    rw [if_neg h0] at hq' hx2
    by_cases h1 : b = 1
    · rw [if_pos h1] at hq' hx2
      cases hq'
      cases hn
      exact lv_bipush he hb hd (of_decide_eq_true hx2) k'
    · rw [if_neg h1] at hq' hx2
      cases hq'
      cases hn
      exact lv_sipush he hb hd (of_decide_eq_true hx2) k'
theorem sm_6 (hC : ee_C p s m args meth c D dA xa xt B y) (hs : ee_sc y pc (6, a, b, n) = true) (k : b < 4294967296 → W p l e R s m args below meth c H locs cells slots Q (F0 m (pc + n) ls (.int (ee_x b) :: vs))) : W p l e R s m args below meth c H locs cells slots Q (F0 m pc ls vs) := by
  obtain ⟨q, hq, hd, hn, hx, -⟩ := ee_sc_spec hs
  obtain ⟨he, hb, hml, hown, hts, -⟩ := id hC
  have hx' : (decide (b < 4294967296) && ee_rsq y a 5 b) = true := hx
  rw [Bool.and_eq_true] at hx'
  cases (show some (Instr.ldc a, 2) = some q from hq)
  cases hn
  exact lv_ldc he hb hown (hts _ (ee_word hx'.2 (by decide) (by decide) (by decide) rfl)) hd (k (of_decide_eq_true hx'.1))
theorem sm_54 (hC : ee_C p s m args meth c D dA xa xt B y) (hs : ee_sc y pc (54, a, b, n) = true) (k : b < 4294967296 → W p l e R s m args below meth c H locs cells slots Q (F0 m (pc + n) ls (.int (ee_x b) :: vs))) : W p l e R s m args below meth c H locs cells slots Q (F0 m pc ls vs) := by
  obtain ⟨q, hq, hd, hn, hx, -⟩ := ee_sc_spec hs
  obtain ⟨he, hb, hml, hown, hts, -⟩ := id hC
  have hx' : (decide (b < 4294967296) && ee_rsq y a 5 b) = true := hx
  rw [Bool.and_eq_true] at hx'
  cases (show some (Instr.ldc_w a, 3) = some q from hq)
  cases hn
  exact lv_ldcw he hb hown (hts _ (ee_word hx'.2 (by decide) (by decide) (by decide) rfl)) hd (k (of_decide_eq_true hx'.1))
theorem sm_59 (hC : ee_C p s m args meth c D dA xa xt B y) (hs : ee_sc y pc (59, a, b, n) = true) (k : W p l e R s m args below meth c H locs cells slots Q (F0 m (pc + n) ls (.long (Int64.ofNat b) :: vs))) : W p l e R s m args below meth c H locs cells slots Q (F0 m pc ls vs) := by
  obtain ⟨q, hq, hd, hn, hx, -⟩ := ee_sc_spec hs
  obtain ⟨he, hb, hml, hown, hts, -⟩ := id hC
  have hx' : ee_rsq y a 15 b = true := hx
  cases (show some (Instr.ldc2_w a, 3) = some q from hq)
  cases hn
  exact lv_ldc2 he hb hown (hts _ (ee_word hx' (by decide) (by decide) (by decide) rfl)) hd k
theorem sm_58 (hC : ee_C p s m args meth c D dA xa xt B y) (hs : ee_sc y pc (58, a, b, n) = true) (k : W p l e R s m args below meth c H locs cells slots Q (F0 m (pc + n) ls (.long (Int64.ofNat ((Fin.ofNat 2 a : Fin 2) : Nat)) :: vs))) : W p l e R s m args below meth c H locs cells slots Q (F0 m pc ls vs) := by
  obtain ⟨q, hq, hd, hn, hx, -⟩ := ee_sc_spec hs
  obtain ⟨he, hb, -⟩ := id hC
  cases (show some (Instr.lconst (Fin.ofNat 2 a), 1) = some q from hq)
  cases hn
  exact lv_lconst he hb hd rfl k
theorem sm_7 (hC : ee_C p s m args meth c D dA xa xt B y) (hs : ee_sc y pc (7, a, b, n) = true) (k : ∀ ax, xa[b]? = some ax → W p l e R s m args below meth c H locs cells slots Q (F0 m (pc + n) ls (.ref ax :: vs))) : W p l e R s m args below meth c H locs cells slots Q (F0 m pc ls vs) := by
  obtain ⟨q, hq, hd, hn, hx, -⟩ := ee_sc_spec hs
  obtain ⟨he, hb, hml, hown, hts, hG, -⟩ := id hC
  obtain ⟨tx, htx⟩ := ee_strw (show ee_rsq y a 6 b = true from hx)
  obtain ⟨ax, g1, g2, -⟩ := hG.2.2.2.1 _ htx
  cases (show some (Instr.ldc a, 2) = some q from hq)
  cases hn
  exact va_ldcS he hb hown g2 hd (k ax g1)
theorem sm_8 (hC : ee_C p s m args meth c D dA xa xt B y) (hs : ee_sc y pc (8, a, b, n) = true) (k : W p l e R s m args below meth c H locs cells slots Q (F0 m (pc + n) ls (.null :: vs))) : W p l e R s m args below meth c H locs cells slots Q (F0 m pc ls vs) := by
  obtain ⟨q, hq, hd, hn, hx, -⟩ := ee_sc_spec hs
  obtain ⟨he, hb, -⟩ := id hC
  cases (show some (Instr.aconst_null, 1) = some q from hq)
  cases hn
  exact lv_null he hb hd k
theorem sm_10 {op : Nat} (h10 : 10 ≤ op) (h20 : op ≤ 20) (hC : ee_C p s m args meth c D dA xa xt B y) (hs : ee_sc y pc (op, a, b, n) = true) {xv yv : Int32} (hnz : 19 ≤ op → ¬ yv = 0) (k : W p l e R s m args below meth c H locs cells slots Q (F0 m (pc + n) ls (.int (ee_fo op xv yv) :: vs))) : W p l e R s m args below meth c H locs cells slots Q (F0 m pc ls (.int yv :: .int xv :: vs)) := by
  obtain ⟨q, hq, hd, hn, hx, -⟩ := ee_sc_spec hs
  obtain ⟨he, hb, -⟩ := id hC
  rcases (show op = 10 ∨ op = 11 ∨ op = 12 ∨ op = 13 ∨ op = 14 ∨ op = 15 ∨ op = 16 ∨ op = 17 ∨ op = 18 ∨ op = 19 ∨ op = 20 by omega) with rfl | rfl | rfl | rfl | rfl | rfl | rfl | rfl | rfl | rfl | rfl
  · cases (show some (Instr.iadd, 1) = some q from hq); cases hn; exact lv_iadd he hb hd k
  · cases (show some (Instr.isub, 1) = some q from hq); cases hn; exact lv_isub he hb hd k
  · cases (show some (Instr.imul, 1) = some q from hq); cases hn; exact lv_imul he hb hd k
  · cases (show some (Instr.iand, 1) = some q from hq); cases hn; exact lv_iand he hb hd k
  · cases (show some (Instr.ior, 1) = some q from hq); cases hn; exact lv_ior he hb hd k
  · cases (show some (Instr.ixor, 1) = some q from hq); cases hn; exact lv_ixor he hb hd k
  · cases (show some (Instr.ishl, 1) = some q from hq); cases hn; exact lv_ishl he hb hd k
  · cases (show some (Instr.ishr, 1) = some q from hq); cases hn; exact lv_ishr he hb hd k
  · cases (show some (Instr.iushr, 1) = some q from hq); cases hn; exact lv_iushr he hb hd rfl k
  · cases (show some (Instr.idiv, 1) = some q from hq); cases hn; exact lv_idiv he hb hd (hnz (by decide)) k
  · cases (show some (Instr.irem, 1) = some q from hq); cases hn; exact lv_irem he hb hd (hnz (by decide)) k
theorem sm_60 {op : Nat} (h10 : 60 ≤ op) (h20 : op ≤ 65) (hC : ee_C p s m args meth c D dA xa xt B y) (hs : ee_sc y pc (op, a, b, n) = true) {xv yv : Int64} (k : ∀ z : Int64, W p l e R s m args below meth c H locs cells slots Q (F0 m (pc + n) ls (.long z :: vs))) : W p l e R s m args below meth c H locs cells slots Q (F0 m pc ls (.long yv :: .long xv :: vs)) := by
  obtain ⟨q, hq, hd, hn, hx, -⟩ := ee_sc_spec hs
  obtain ⟨he, hb, -⟩ := id hC
  rcases (show op = 60 ∨ op = 61 ∨ op = 62 ∨ op = 63 ∨ op = 64 ∨ op = 65 by omega) with rfl | rfl | rfl | rfl | rfl | rfl
  · cases (show some (Instr.ladd, 1) = some q from hq); cases hn; exact lv_ladd he hb hd (k _)
  · cases (show some (Instr.lsub, 1) = some q from hq); cases hn; exact lv_lsub he hb hd (k _)
  · cases (show some (Instr.lmul, 1) = some q from hq); cases hn; exact lv_lmul he hb hd (k _)
  · cases (show some (Instr.land, 1) = some q from hq); cases hn; exact lv_land he hb hd (k _)
  · cases (show some (Instr.lor, 1) = some q from hq); cases hn; exact lv_lor he hb hd (k _)
  · cases (show some (Instr.lxor, 1) = some q from hq); cases hn; exact lv_lxor he hb hd (k _)
theorem sm_66 {op : Nat} (h10 : 66 ≤ op) (h20 : op ≤ 68) (hC : ee_C p s m args meth c D dA xa xt B y) (hs : ee_sc y pc (op, a, b, n) = true) {xv : Int64} {yv : Int32} (k : ∀ z : Int64, W p l e R s m args below meth c H locs cells slots Q (F0 m (pc + n) ls (.long z :: vs))) : W p l e R s m args below meth c H locs cells slots Q (F0 m pc ls (.int yv :: .long xv :: vs)) := by
  obtain ⟨q, hq, hd, hn, hx, -⟩ := ee_sc_spec hs
  obtain ⟨he, hb, -⟩ := id hC
  rcases (show op = 66 ∨ op = 67 ∨ op = 68 by omega) with rfl | rfl | rfl
  · cases (show some (Instr.lshl, 1) = some q from hq); cases hn; exact lv_lshl he hb hd rfl (k _)
  · cases (show some (Instr.lshr, 1) = some q from hq); cases hn; exact lv_lshr he hb hd rfl (k _)
  · cases (show some (Instr.lushr, 1) = some q from hq); cases hn; exact lv_lushr he hb hd rfl (k _)
theorem sm_69 (hC : ee_C p s m args meth c D dA xa xt B y) (hs : ee_sc y pc (69, a, b, n) = true) {xv yv : Int64} (k : ∀ z : Int32, -1 ≤ z.toInt → z.toInt ≤ 1 → W p l e R s m args below meth c H locs cells slots Q (F0 m (pc + n) ls (.int z :: vs))) : W p l e R s m args below meth c H locs cells slots Q (F0 m pc ls (.long yv :: .long xv :: vs)) := by
  obtain ⟨q, hq, hd, hn, hx, -⟩ := ee_sc_spec hs
  obtain ⟨he, hb, -⟩ := id hC
  cases (show some (Instr.lcmp, 1) = some q from hq)
  cases hn
  refine W.lcmp he hb hd ?_
  refine k _ ?_ ?_ <;> (unfold lg_cmp; (repeat' split) <;> decide)
theorem sm_70 (hC : ee_C p s m args meth c D dA xa xt B y) (hs : ee_sc y pc (70, a, b, n) = true) {xv : Int32} (k : ∀ z : Int64, W p l e R s m args below meth c H locs cells slots Q (F0 m (pc + n) ls (.long z :: vs))) : W p l e R s m args below meth c H locs cells slots Q (F0 m pc ls (.int xv :: vs)) := by
  obtain ⟨q, hq, hd, hn, hx, -⟩ := ee_sc_spec hs
  obtain ⟨he, hb, -⟩ := id hC
  cases (show some (Instr.i2l, 1) = some q from hq)
  cases hn
  exact lv_i2l he hb hd rfl (k _)
theorem sm_71 (hC : ee_C p s m args meth c D dA xa xt B y) (hs : ee_sc y pc (71, a, b, n) = true) {xv : Int64} (k : ∀ z : Int32, W p l e R s m args below meth c H locs cells slots Q (F0 m (pc + n) ls (.int z :: vs))) : W p l e R s m args below meth c H locs cells slots Q (F0 m pc ls (.long xv :: vs)) := by
  obtain ⟨q, hq, hd, hn, hx, -⟩ := ee_sc_spec hs
  obtain ⟨he, hb, -⟩ := id hC
  cases (show some (Instr.l2i, 1) = some q from hq)
  cases hn
  exact lv_l2i he hb hd rfl (k _)
theorem sm_75 (hC : ee_C p s m args meth c D dA xa xt B y) (hs : ee_sc y pc (75, a, b, n) = true) {xv : Int32} (k : W p l e R s m args below meth c H locs cells slots Q (F0 m (pc + n) ls (.int ((xv.toUInt32 % 65536).toInt32) :: vs))) : W p l e R s m args below meth c H locs cells slots Q (F0 m pc ls (.int xv :: vs)) := by
  obtain ⟨q, hq, hd, hn, hx, -⟩ := ee_sc_spec hs
  obtain ⟨he, hb, -⟩ := id hC
  cases (show some (Instr.i2c, 1) = some q from hq)
  cases hn
  exact lv_i2c he hb hd rfl k
theorem sm_22 (hC : ee_C p s m args meth c D dA xa xt B y) (hs : ee_sc y pc (22, a, b, n) = true) {v : Value} (hv : v.category = 1) (k : W p l e R s m args below meth c H locs cells slots Q (F0 m (pc + n) ls (v :: v :: vs))) : W p l e R s m args below meth c H locs cells slots Q (F0 m pc ls (v :: vs)) := by
  obtain ⟨q, hq, hd, hn, hx, -⟩ := ee_sc_spec hs
  obtain ⟨he, hb, -⟩ := id hC
  cases (show some (Instr.dup, 1) = some q from hq)
  cases hn
  exact lv_dup he hb hd hv k
theorem sm_23 (hC : ee_C p s m args meth c D dA xa xt B y) (hs : ee_sc y pc (23, a, b, n) = true) {v v2 : Value} (hv : v.category = 1) (hv2 : v2.category = 1) (k : W p l e R s m args below meth c H locs cells slots Q (F0 m (pc + n) ls (v :: v2 :: v :: v2 :: vs))) : W p l e R s m args below meth c H locs cells slots Q (F0 m pc ls (v :: v2 :: vs)) := by
  obtain ⟨q, hq, hd, hn, hx, -⟩ := ee_sc_spec hs
  obtain ⟨he, hb, -⟩ := id hC
  cases (show some (Instr.dup2, 1) = some q from hq)
  cases hn
  exact lv_dup2_11 he hb hd hv hv2 k
theorem sm_24 (hC : ee_C p s m args meth c D dA xa xt B y) (hs : ee_sc y pc (24, a, b, n) = true) {v : Value} (hv : v.category = 1) (k : W p l e R s m args below meth c H locs cells slots Q (F0 m (pc + n) ls vs)) : W p l e R s m args below meth c H locs cells slots Q (F0 m pc ls (v :: vs)) := by
  obtain ⟨q, hq, hd, hn, hx, -⟩ := ee_sc_spec hs
  obtain ⟨he, hb, -⟩ := id hC
  cases (show some (Instr.pop, 1) = some q from hq)
  cases hn
  exact lv_pop he hb hd hv k
theorem sm_44 (hC : ee_C p s m args meth c D dA xa xt B y) (hs : ee_sc y pc (44, a, b, n) = true) {xv yv : Int32} (kt : ee_ch a xv yv → W p l e R s m args below meth c H locs cells slots Q (F0 m b ls vs)) (kf : ¬ ee_ch a xv yv → W p l e R s m args below meth c H locs cells slots Q (F0 m (pc + n) ls vs)) : W p l e R s m args below meth c H locs cells slots Q (F0 m pc ls (.int yv :: .int xv :: vs)) := by
  obtain ⟨q, hq, hd, hn, hx, -⟩ := ee_sc_spec hs
  obtain ⟨he, hb, -⟩ := id hC
  cases (show some (Instr.if_icmp (ee_cc a) ((b : Int) - pc), 3) = some q from hq)
  cases hn
  have ht : (pc : Int) + ((b : Int) - pc) = (b : Int) := by omega
  match a, hd, kt, kf with
  | 0, hd, kt, kf => exact lv_icmp_eq he hb hd ht kt kf
  | 1, hd, kt, kf => exact lv_icmp_ne he hb hd ht kt (fun z => kf (fun q => q z))
  | 2, hd, kt, kf => exact lv_icmp_lt he hb hd ht kt kf
  | 3, hd, kt, kf => exact lv_icmp_ge he hb hd ht (fun z => kt (Int32.not_lt.mpr z)) (fun z => kf (fun q => z (Int32.not_lt.mp q)))
  | 4, hd, kt, kf => exact lv_icmp_gt he hb hd ht kt kf
  | z + 5, hd, kt, kf => exact lv_icmp_le he hb hd ht (fun z => kt (Int32.not_lt.mpr z)) (fun z => kf (fun q => z (Int32.not_lt.mp q)))
theorem sm_46 (hC : ee_C p s m args meth c D dA xa xt B y) (hs : ee_sc y pc (46, a, b, n) = true) {v : Value} (hr : v = .null ∨ ∃ x, v = .ref x) (kt : v = .null → W p l e R s m args below meth c H locs cells slots Q (F0 m b ls vs)) (kf : v ≠ .null → W p l e R s m args below meth c H locs cells slots Q (F0 m (pc + n) ls vs)) : W p l e R s m args below meth c H locs cells slots Q (F0 m pc ls (v :: vs)) := by
  obtain ⟨q, hq, hd, hn, hx, -⟩ := ee_sc_spec hs
  obtain ⟨he, hb, -⟩ := id hC
  cases (show some (Instr.ifnull ((b : Int) - pc), 3) = some q from hq)
  cases hn
  have ht : (pc : Int) + ((b : Int) - pc) = (b : Int) := by omega
  rcases hr with rfl | ⟨x, rfl⟩
  · exact lv_ifnullN he hb hd ht (kt rfl)
  · exact lv_ifnull he hb hd (kf (by intro z; cases z))
theorem sm_47 (hC : ee_C p s m args meth c D dA xa xt B y) (hs : ee_sc y pc (47, a, b, n) = true) {v : Value} (hr : v = .null ∨ ∃ x, v = .ref x) (kt : v ≠ .null → W p l e R s m args below meth c H locs cells slots Q (F0 m b ls vs)) (kf : v = .null → W p l e R s m args below meth c H locs cells slots Q (F0 m (pc + n) ls vs)) : W p l e R s m args below meth c H locs cells slots Q (F0 m pc ls (v :: vs)) := by
  obtain ⟨q, hq, hd, hn, hx, -⟩ := ee_sc_spec hs
  obtain ⟨he, hb, -⟩ := id hC
  cases (show some (Instr.ifnonnull ((b : Int) - pc), 3) = some q from hq)
  cases hn
  have ht : (pc : Int) + ((b : Int) - pc) = (b : Int) := by omega
  rcases hr with rfl | ⟨x, rfl⟩
  · exact lv_ifnonnullN he hb hd (kf rfl)
  · exact lv_ifnonnull he hb hd ht (kt (by intro z; cases z))
theorem sm_48 (hC : ee_C p s m args meth c D dA xa xt B y) (hs : ee_sc y pc (48, a, b, n) = true) (k : W p l e R s m args below meth c H locs cells slots Q (F0 m b ls vs)) : W p l e R s m args below meth c H locs cells slots Q (F0 m pc ls vs) := by
  obtain ⟨q, hq, hd, hn, hx, -⟩ := ee_sc_spec hs
  obtain ⟨he, hb, -⟩ := id hC
  cases (show some (Instr.goto ((b : Int) - pc), 3) = some q from hq)
  cases hn
  have ht : (pc : Int) + ((b : Int) - pc) = (b : Int) := by omega
  exact lv_goto he hb hd ht k
end SM
