/-! ===== branches by 0, switches, fields, arrays, new objects ===== -/
def ee_lk : List (Nat × Nat) → Nat → Nat → Nat
  | [], _, d => d
  | q :: l, x, d => bif Nat.beq q.1 x then q.2 else ee_lk l x d
/-- where a table leads -/
def ee_tg (t : Nat × Nat × List Nat) (z : Nat) : Nat := if t.1 ≤ z ∧ z < t.1 + t.2.2.length then t.2.2.getD (z - t.1) 0 else t.2.1
theorem ee_lk_off {pc : Nat} : ∀ {t : List (Nat × Nat)} {d : Nat} {u : List (Int × Int)} {ud : Int} {x : Int32}, u.map (fun q : Int × Int => (q.1 + 2147483648, (pc : Int) + q.2)) = t.map (fun q : Nat × Nat => ((q.1 : Int), (q.2 : Int))) → (pc : Int) + ud = (d : Int) → (pc : Int) + Op.lookupswitch.offset u ud x.toInt = (ee_lk t (ee_z x) d : Int)
  | [], d, [], ud, x, _, h => h
  | q :: t, d, w :: u, ud, x, h, hd => by
    simp only [List.map_cons, List.cons.injEq, Prod.mk.injEq] at h
    have hz := ee_zi x
    obtain ⟨w1, w2⟩ := w
    rw [Op.lookupswitch.offset_cons]
    show _ = ((bif Nat.beq q.1 (ee_z x) then q.2 else ee_lk t (ee_z x) d : Nat) : Int)
    by_cases hq : q.1 = ee_z x
    · rw [hq, ee_ct (Nat.beq_refl _)]
      dsimp only at h
      split
      · exact h.1.2
      · rename_i h9
        exact absurd (by omega) h9
    · rw [ee_cf (ee_bn hq)]
      dsimp only at h
      split
      · rename_i h9
        exact absurd (by omega) hq
      · exact ee_lk_off h.2 hd
theorem ee_nf {ty : FieldType} {v : Value} (h : (ty = .int ∧ ∃ x, v = .int x) ∨ (ty = .boolean ∧ ∃ x : Int32, v = .int x ∧ (x = 0 ∨ x = 1)) ∨ (((∃ n, ty = .object n) ∨ ∃ t, ty = .array t) ∧ (v = .null ∨ ∃ x, v = .ref x))) : narrow ty v = v ∧ fits ty v = true := by
  rcases h with ⟨rfl, x, rfl⟩ | ⟨rfl, x, rfl, h⟩ | ⟨hty, h⟩
  · exact ⟨rfl, rfl⟩
  · rcases h with rfl | rfl
    · exact ⟨by decide +kernel, by decide +kernel⟩
    · exact ⟨by decide +kernel, by decide +kernel⟩
  · rcases h with rfl | ⟨x, rfl⟩ <;> rcases hty with ⟨n, rfl⟩ | ⟨t, rfl⟩ <;> exact ⟨rfl, rfl⟩
section SM2
variable {p : Program} {l : Launch} {e : Env} {R : Room} {s : State} {m : MethodId} {args : Array Value} {below : List Frame} {meth : Method} {c : Code} {Q : State → Prop} {D : va_G} {dA : Nat → ClassId} {xa : List Nat} {xt : ee_X} {B : Nat} {y : Nat}
variable {pc a b n : Nat} {H : Heap} {locs : List Loc} {cells slots : Nat} {ls : Array Slot} {vs : List Value} {ws : va_W}
theorem sm_45 (hC : ee_C p s m args meth c D dA xa xt B y) (hs : ee_sc y pc (45, a, b, n) = true) {xv : Int32} (kt : ee_ch a xv 0 → W p l e R s m args below meth c H locs cells slots Q (F0 m b ls vs)) (kf : ¬ ee_ch a xv 0 → W p l e R s m args below meth c H locs cells slots Q (F0 m (pc + n) ls vs)) : W p l e R s m args below meth c H locs cells slots Q (F0 m pc ls (.int xv :: vs)) := by
  obtain ⟨q, hq, hd, hn, hx, -⟩ := ee_sc_spec hs
  obtain ⟨he, hb, -⟩ := id hC
  cases (show some (Instr.ifCond (ee_cc a) ((b : Int) - pc), 3) = some q from hq)
  cases hn
  have ht : (pc : Int) + ((b : Int) - pc) = (b : Int) := by omega
  match a, hd, kt, kf with
  | 0, hd, kt, kf => exact lv_if_eq he hb hd ht kt kf
  | 1, hd, kt, kf => exact lv_if_ne he hb hd ht kt (fun z => kf (fun q => q z))
  | 2, hd, kt, kf => exact lv_if_lt he hb hd ht kt kf
  | 3, hd, kt, kf => exact lv_if_ge he hb hd ht (fun z => kt (Int32.not_lt.mpr z)) (fun z => kf (fun q => z (Int32.not_lt.mp q)))
  | 4, hd, kt, kf => exact lv_if_gt he hb hd ht kt kf
  | z + 5, hd, kt, kf => exact lv_if_le he hb hd ht (fun z => kt (Int32.not_lt.mpr z)) (fun z => kf (fun q => z (Int32.not_lt.mp q)))
theorem sm_49 (hC : ee_C p s m args meth c D dA xa xt B y) (hs : ee_sc y pc (49, a, b, n) = true) {xv : Int32} (k : W p l e R s m args below meth c H locs cells slots Q (F0 m (ee_tg (ee_ts a) (ee_z xv)) ls vs)) : W p l e R s m args below meth c H locs cells slots Q (F0 m pc ls (.int xv :: vs)) := by
  obtain ⟨q, hq, hd, hn, hx, -⟩ := ee_sc_spec hs
  obtain ⟨he, hb, -⟩ := id hC
  cases (show some (Instr.tableswitch (ee_tsi a).1 (ee_tsi a).2.1 (ee_tsi a).2.2.1 (ee_tsi a).2.2.2, b) = some q from hq)
  have hx' : ee_tsk pc (ee_ts a) (ee_tsi a) = true := hx
  generalize ee_ts a = t at k hx'
  generalize ee_tsi a = u at hd hx'
  unfold ee_tsk at hx'
  simp only [Bool.and_eq_true, decide_eq_true_eq] at hx'
  obtain ⟨g1, g2, g3, g4⟩ := hx'
  have hz := ee_zi xv
  unfold ee_tg at k
  by_cases hin : t.1 ≤ ee_z xv ∧ ee_z xv < t.1 + t.2.2.length
  · rw [if_pos hin] at k
    have hlt : ee_z xv - t.1 < t.2.2.length := by omega
    have htg : t.2.2[ee_z xv - t.1]? = some (t.2.2.getD (ee_z xv - t.1) 0) := by
      rw [List.getD_eq_getElem?_getD, List.getElem?_eq_getElem hlt]
      rfl
    generalize t.2.2.getD (ee_z xv - t.1) 0 = tg at k htg
    have h5 : (u.2.2.2.toList.map (fun o => (pc : Int) + o))[ee_z xv - t.1]? = some (tg : Int) := by
      rw [g4, List.getElem?_map, htg]; rfl
    rw [List.getElem?_map] at h5
    cases h6 : u.2.2.2.toList[ee_z xv - t.1]? with
    | none => rw [h6] at h5; cases h5
    | some off =>
      rw [h6] at h5
      have h7 : (pc : Int) + off = tg := by simpa using h5
      refine lv_tableIn he hb hd (by omega) (by omega) (off := off) ?_ h7 k
      rw [← Array.getElem?_toList, show (xv.toInt - u.2.1).toNat = ee_z xv - t.1 by omega]
      exact h6
  · rw [if_neg hin] at k
    refine lv_tableOut he hb hd ?_ g2 k
    by_cases h1 : t.1 ≤ ee_z xv
    · exact Or.inr (by omega)
    · exact Or.inl (by omega)
theorem sm_50 (hC : ee_C p s m args meth c D dA xa xt B y) (hs : ee_sc y pc (50, a, b, n) = true) {xv : Int32} (k : W p l e R s m args below meth c H locs cells slots Q (F0 m (ee_lk (ee_ls a).2 (ee_z xv) (ee_ls a).1) ls vs)) : W p l e R s m args below meth c H locs cells slots Q (F0 m pc ls (.int xv :: vs)) := by
  obtain ⟨q, hq, hd, hn, hx, -⟩ := ee_sc_spec hs
  obtain ⟨he, hb, -⟩ := id hC
  cases (show some (Instr.lookupswitch (ee_lsi a).1 (ee_lsi a).2, b) = some q from hq)
  have hx' : ee_lsk pc (ee_ls a) (ee_lsi a) = true := hx
  generalize ee_ls a = t at k hx'
  generalize ee_lsi a = u at hd hx'
  unfold ee_lsk at hx'
  rw [Bool.and_eq_true, Bool.and_eq_true] at hx'
  obtain ⟨g1, g2, g3⟩ := hx'
  have g1 := of_decide_eq_true g1
  have g2 := of_decide_eq_true g2
  have ho := ee_lk_off (x := xv) g2 g1
  exact lv_lookup he hb hd g3 rfl ho k
theorem sm_27 (hC : ee_C p s m args meth c D dA xa xt B y) (hs : ee_sc y pc (27, a, b, n) = true) (hS : va_S (fun q => B ≤ q) s.heap H locs) (k : ∀ ax, xa[1]? = some ax → W p l e R s m args below meth c H locs cells slots Q (F0 m (pc + n) ls (.ref ax :: vs))) : W p l e R s m args below meth c H locs cells slots Q (F0 m pc ls vs) := by
  obtain ⟨q, hq, hd, hn, hx, -⟩ := ee_sc_spec hs
  obtain ⟨he, hb, hml, hown, hts, hG, -⟩ := id hC
  cases (show some (Instr.getstatic a, 3) = some q from hq)
  cases hn
  have hx' : (ee_rsq y a 7 b && decide (b = 1)) = true := hx
  rw [Bool.and_eq_true] at hx'
  obtain ⟨ax, g1, g2⟩ := hG.2.2.2.2.1
  exact va_gets he hb g2 hS hown (hts _ (ee_word hx'.1 (by decide) (by decide) (by decide) rfl)) (fun x h9 => h9) hd (k ax g1)
theorem sm_25 (hC : ee_C p s m args meth c D dA xa xt B y) (hs : ee_sc y pc (25, a, b, n) = true) (hP : va_P D ee_cl ws H) {kk ax : Nat} {fs : List Value} {w : Value} (hws : ws[kk]? = some (ax, .inr (b / 64, fs))) (hw : fs[b % 64]? = some w)
    (k : W p l e R s m args below meth c H locs cells slots Q (F0 m (pc + n) ls (w :: vs))) : W p l e R s m args below meth c H locs cells slots Q (F0 m pc ls (.ref ax :: vs)) := by
  obtain ⟨q, hq, hd, hn, hx, -⟩ := ee_sc_spec hs
  obtain ⟨he, hb, hml, hown, hts, hG, -⟩ := id hC
  cases (show some (Instr.getfield a, 3) = some q from hq)
  cases hn
  have hx' : (ee_rsq y a 1 b && decide (b / 64 < ee_cl.length ∧ b % 64 < (ee_cx (b / 64)).2.2)) = true := hx
  rw [Bool.and_eq_true] at hx'
  obtain ⟨g1, g2⟩ := of_decide_eq_true hx'.2
  obtain ⟨C, T, N, fs0, ecx, ecl, -, -, hin, hty, hnm, hdecl, -, -, -⟩ := ee_cls (ci := b / 64) g1
  rw [ecx] at g2
  exact va_get (ci := b / 64) (v := w) he hb hts hin hown hG.1 hP kk hws ecl (b % 64) g2 (hts _ (ee_word hx'.1 (w := .fieldLink (ee_on.getD (ee_yc y) "") a C (T (b % 64)).2.1 (T (b % 64)).2.2.1) (by decide) (by decide) (by decide) (by show some _ = _; rw [ecx]))) (fun x h9 => by rw [hdecl _ g2] at h9; exact h9) hw hd k
theorem sm_26 (hC : ee_C p s m args meth c D dA xa xt B y) (hs : ee_sc y pc (26, a, b, n) = true) (hP : va_P D ee_cl ws H) (hD : va_D (fun q => B ≤ q) ws) (hS : va_S (fun q => B ≤ q) s.heap H locs) {kk ax : Nat} {fs : List Value} {v : Value} (hws : ws[kk]? = some (ax, .inr (b / 64, fs)))
    (hv : narrow (ee_ty (b / 64) (b % 64)) v = v ∧ fits (ee_ty (b / 64) (b % 64)) v = true) (hlen : b % 64 < fs.length)
    (k : ∀ (H1 : Heap) (locs1 : List Loc), va_P D ee_cl (ws.set kk (ax, .inr (b / 64, fs.set (b % 64) v))) H1 → va_D (fun q => B ≤ q) (ws.set kk (ax, .inr (b / 64, fs.set (b % 64) v))) → va_S (fun q => B ≤ q) s.heap H1 locs1 → W p l e R s m args below meth c H1 locs1 cells slots Q (F0 m (pc + n) ls vs)) :
    W p l e R s m args below meth c H locs cells slots Q (F0 m pc ls (v :: .ref ax :: vs)) := by
  obtain ⟨q, hq, hd, hn, hx, -⟩ := ee_sc_spec hs
  obtain ⟨he, hb, hml, hown, hts, hG, hB, hlk, hrt, hnm0, hyM⟩ := id hC
  cases (show some (Instr.putfield a, 3) = some q from hq)
  cases hn
  have hx' : (ee_rsq y a 1 b && (decide (b / 64 < ee_cl.length ∧ b % 64 < (ee_cx (b / 64)).2.2) && (!((ee_cx (b / 64)).2.1 (b % 64)).2.2.2 || decide ((ee_yn y).name = "<init>" ∧ ((ee_cx (b / 64)).2.1 (b % 64)).1 = (ee_yn y).cls)))) = true := hx
  rw [Bool.and_eq_true, Bool.and_eq_true] at hx'
  obtain ⟨g1, g2⟩ := of_decide_eq_true hx'.2.1
  obtain ⟨C, T, N, fs0, ecx, ecl, -, -, hin, hty, hnm, hdecl, -, -, hkind⟩ := ee_cls (ci := b / 64) g1
  have hx3 := hx'.2.2
  rw [ecx] at g2 hx3
  have hlink := hts _ (ee_word hx'.1 (w := .fieldLink (ee_on.getD (ee_yc y) "") a C (T (b % 64)).2.1 (T (b % 64)).2.2.1) (by decide) (by decide) (by decide) (by show some _ = _; rw [ecx]))
  have hsame : ∀ x, s.fieldFound? (T (b % 64)).1 (T (b % 64)).2.1 (T (b % 64)).2.2.1 = some x → s.fieldFound? C (T (b % 64)).2.1 (T (b % 64)).2.2.1 = some x := fun x h9 => by rw [hdecl _ g2] at h9; exact h9
  cases hfin : (T (b % 64)).2.2.2 with
  | false => exact va_put (ci := b / 64) he hb hts hin (ee_ty (b / 64)) hty hnm hown hG.1 hP hD hS kk hws ecl (b % 64) g2 hlink hsame hfin (hty _ g2) hv.1 hv.2 hlen hd k
  | true =>
    dsimp only at hx3
    rw [hfin] at hx3
    have hx4 := of_decide_eq_true (show decide ((ee_yn y).name = "<init>" ∧ (T (b % 64)).1 = (ee_yn y).cls) = true from hx3)
    have hcls : ee_on.getD (ee_yc y) "" = (ee_yn y).cls := ee_own hyM
    exact va_putF (ci := b / 64) he hb hts hin (ee_ty (b / 64)) hty hnm hown hG.1 hP hD hS kk hws ecl (b % 64) g2 hlink hsame hfin (hnm0.trans hx4.1) (hx4.2.trans hcls.symm) (hty _ g2) hv.1 hv.2 hlen hd k
/-! arrays -/
theorem sm_28 (hC : ee_C p s m args meth c D dA xa xt B y) (hs : ee_sc y pc (28, a, b, n) = true) (hP : va_P D ee_cl ws H) {kk ax N : Nat} {f : Nat → Int32} {i : Int32} (hws : ws[kk]? = some (ax, .inl (dA 0, N, .inl f))) (hin : vp_in i N)
    (k : W p l e R s m args below meth c H locs cells slots Q (F0 m (pc + n) ls (.int (f i.toNatClampNeg) :: vs))) : W p l e R s m args below meth c H locs cells slots Q (F0 m pc ls (.int i :: .ref ax :: vs)) := by
  obtain ⟨q, hq, hd, hn, hx, -⟩ := ee_sc_spec hs
  obtain ⟨he, hb, hml, hown, hts, hG, -⟩ := id hC
  cases (show some (Instr.iaload, 1) = some q from hq)
  cases hn
  exact va_iald he hb hG.1 hP kk 0 hws rfl hin hd k
theorem sm_32 (hC : ee_C p s m args meth c D dA xa xt B y) (hs : ee_sc y pc (32, a, b, n) = true) (hP : va_P D ee_cl ws H) {kk ax N : Nat} {f : Nat → Int32} {i : Int32} (hws : ws[kk]? = some (ax, .inl (dA 2, N, .inl f))) (hin : vp_in i N)
    (k : W p l e R s m args below meth c H locs cells slots Q (F0 m (pc + n) ls (.int (f i.toNatClampNeg) :: vs))) : W p l e R s m args below meth c H locs cells slots Q (F0 m pc ls (.int i :: .ref ax :: vs)) := by
  obtain ⟨q, hq, hd, hn, hx, -⟩ := ee_sc_spec hs
  obtain ⟨he, hb, hml, hown, hts, hG, -⟩ := id hC
  cases (show some (Instr.baload, 1) = some q from hq)
  cases hn
  exact va_zald he hb hG.1 hP kk 2 hws rfl hin hd k
theorem sm_72 (hC : ee_C p s m args meth c D dA xa xt B y) (hs : ee_sc y pc (72, a, b, n) = true) (hP : va_P D ee_cl ws H) {kk ax N : Nat} {f : Nat → Int64} {i : Int32} (hws : ws[kk]? = some (ax, .inl (dA 1, N, .inr (.inl f)))) (hin : vp_in i N)
    (k : W p l e R s m args below meth c H locs cells slots Q (F0 m (pc + n) ls (.long (f i.toNatClampNeg) :: vs))) : W p l e R s m args below meth c H locs cells slots Q (F0 m pc ls (.int i :: .ref ax :: vs)) := by
  obtain ⟨q, hq, hd, hn, hx, -⟩ := ee_sc_spec hs
  obtain ⟨he, hb, hml, hown, hts, hG, -⟩ := id hC
  cases (show some (Instr.laload, 1) = some q from hq)
  cases hn
  exact va_lald he hb hG.1 hP kk 1 hws rfl hin hd k
theorem sm_30 (hC : ee_C p s m args meth c D dA xa xt B y) (hs : ee_sc y pc (30, a, b, n) = true) (hP : va_P D ee_cl ws H) {kk ax N t : Nat} {g : Nat → Option Nat} {i : Int32} (ht : 3 ≤ t ∧ t ≤ 6) (hws : ws[kk]? = some (ax, .inl (dA t, N, .inr (.inr (.inr (.inr g)))))) (hin : vp_in i N)
    (k : W p l e R s m args below meth c H locs cells slots Q (F0 m (pc + n) ls (va_rf (g i.toNatClampNeg) :: vs))) : W p l e R s m args below meth c H locs cells slots Q (F0 m pc ls (.int i :: .ref ax :: vs)) := by
  obtain ⟨q, hq, hd, hn, hx, -⟩ := ee_sc_spec hs
  obtain ⟨he, hb, hml, hown, hts, hG, -⟩ := id hC
  cases (show some (Instr.aaload, 1) = some q from hq)
  cases hn
  rcases (show t = 3 ∨ t = 4 ∨ t = 5 ∨ t = 6 by omega) with rfl | rfl | rfl | rfl
  · exact va_aldq he hb hG.1 hP kk 3 hws rfl hin hd k
  · exact va_aldq he hb hG.1 hP kk 4 hws rfl hin hd k
  · exact va_aldq he hb hG.1 hP kk 5 hws rfl hin hd k
  · exact va_aldq he hb hG.1 hP kk 6 hws rfl hin hd k
theorem sm_29 (hC : ee_C p s m args meth c D dA xa xt B y) (hs : ee_sc y pc (29, a, b, n) = true) (hP : va_P D ee_cl ws H) (hD : va_D (fun q => B ≤ q) ws) (hS : va_S (fun q => B ≤ q) s.heap H locs) {kk ax N : Nat} {f : Nat → Int32} {i x : Int32} (hws : ws[kk]? = some (ax, .inl (dA 0, N, .inl f))) (hin : vp_in i N)
    (k : ∀ (H1 : Heap) (locs1 : List Loc), va_P D ee_cl (ws.set kk (ax, .inl (dA 0, N, .inl (upd f i.toNatClampNeg x)))) H1 → va_D (fun q => B ≤ q) (ws.set kk (ax, .inl (dA 0, N, .inl (upd f i.toNatClampNeg x)))) → va_S (fun q => B ≤ q) s.heap H1 locs1 → W p l e R s m args below meth c H1 locs1 cells slots Q (F0 m (pc + n) ls vs)) :
    W p l e R s m args below meth c H locs cells slots Q (F0 m pc ls (.int x :: .int i :: .ref ax :: vs)) := by
  obtain ⟨q, hq, hd, hn, hx, -⟩ := ee_sc_spec hs
  obtain ⟨he, hb, hml, hown, hts, hG, -⟩ := id hC
  cases (show some (Instr.iastore, 1) = some q from hq)
  cases hn
  exact va_iast he hb hG.1 hP hD hS kk 0 hws rfl hin hd k
theorem sm_33 (hC : ee_C p s m args meth c D dA xa xt B y) (hs : ee_sc y pc (33, a, b, n) = true) (hP : va_P D ee_cl ws H) (hD : va_D (fun q => B ≤ q) ws) (hS : va_S (fun q => B ≤ q) s.heap H locs) {kk ax N : Nat} {f : Nat → Int32} {i x : Int32} (hx01 : x = 0 ∨ x = 1) (hws : ws[kk]? = some (ax, .inl (dA 2, N, .inl f))) (hin : vp_in i N)
    (k : ∀ (H1 : Heap) (locs1 : List Loc), va_P D ee_cl (ws.set kk (ax, .inl (dA 2, N, .inl (upd f i.toNatClampNeg x)))) H1 → va_D (fun q => B ≤ q) (ws.set kk (ax, .inl (dA 2, N, .inl (upd f i.toNatClampNeg x)))) → va_S (fun q => B ≤ q) s.heap H1 locs1 → W p l e R s m args below meth c H1 locs1 cells slots Q (F0 m (pc + n) ls vs)) :
    W p l e R s m args below meth c H locs cells slots Q (F0 m pc ls (.int x :: .int i :: .ref ax :: vs)) := by
  obtain ⟨q, hq, hd, hn, hx, -⟩ := ee_sc_spec hs
  obtain ⟨he, hb, hml, hown, hts, hG, -⟩ := id hC
  cases (show some (Instr.bastore, 1) = some q from hq)
  cases hn
  have hnar : vp_nar .boolean x = x := by rcases hx01 with rfl | rfl <;> decide +kernel
  refine va_zast he hb hG.1 hP hD hS kk 2 hws rfl hin hd ?_
  rw [hnar]
  exact k
theorem sm_73 (hC : ee_C p s m args meth c D dA xa xt B y) (hs : ee_sc y pc (73, a, b, n) = true) (hP : va_P D ee_cl ws H) (hD : va_D (fun q => B ≤ q) ws) (hS : va_S (fun q => B ≤ q) s.heap H locs) {kk ax N : Nat} {f : Nat → Int64} {i : Int32} {x : Int64} (hws : ws[kk]? = some (ax, .inl (dA 1, N, .inr (.inl f)))) (hin : vp_in i N)
    (k : ∀ (H1 : Heap) (locs1 : List Loc), va_P D ee_cl (ws.set kk (ax, .inl (dA 1, N, .inr (.inl (vp_updL f i.toNatClampNeg x))))) H1 → va_D (fun q => B ≤ q) (ws.set kk (ax, .inl (dA 1, N, .inr (.inl (vp_updL f i.toNatClampNeg x))))) → va_S (fun q => B ≤ q) s.heap H1 locs1 → W p l e R s m args below meth c H1 locs1 cells slots Q (F0 m (pc + n) ls vs)) :
    W p l e R s m args below meth c H locs cells slots Q (F0 m pc ls (.long x :: .int i :: .ref ax :: vs)) := by
  obtain ⟨q, hq, hd, hn, hx, -⟩ := ee_sc_spec hs
  obtain ⟨he, hb, hml, hown, hts, hG, -⟩ := id hC
  cases (show some (Instr.lastore, 1) = some q from hq)
  cases hn
  exact va_last he hb hG.1 hP hD hS kk 1 hws rfl hin hd k
theorem sm_31 (hC : ee_C p s m args meth c D dA xa xt B y) (hs : ee_sc y pc (31, a, b, n) = true) (hP : va_P D ee_cl ws H) (hD : va_D (fun q => B ≤ q) ws) (hS : va_S (fun q => B ≤ q) s.heap H locs) {kk ax N t : Nat} {g : Nat → Option Nat} {i : Int32} (ht : 3 ≤ t ∧ t ≤ 6) (hws : ws[kk]? = some (ax, .inl (dA t, N, .inr (.inr (.inr (.inr g)))))) (hin : vp_in i N)
    {v : Value} {z : Option Nat} (hv : v = va_rf z) (hz : ∀ a2, z = some a2 → ∃ (k2 : Nat) (vs2 : List Value), ws[k2]? = some (a2, .inr (ee_ec t, vs2)))
    (k : ∀ (H1 : Heap) (locs1 : List Loc), va_P D ee_cl (ws.set kk (ax, .inl (dA t, N, .inr (.inr (.inr (.inr (va_up g i.toNatClampNeg z))))))) H1 → va_D (fun q => B ≤ q) (ws.set kk (ax, .inl (dA t, N, .inr (.inr (.inr (.inr (va_up g i.toNatClampNeg z))))))) → va_S (fun q => B ≤ q) s.heap H1 locs1 → W p l e R s m args below meth c H1 locs1 cells slots Q (F0 m (pc + n) ls vs)) :
    W p l e R s m args below meth c H locs cells slots Q (F0 m pc ls (v :: .int i :: .ref ax :: vs)) := by
  obtain ⟨q, hq, hd, hn, hx, -⟩ := ee_sc_spec hs
  obtain ⟨he, hb, hml, hown, hts, hG, -⟩ := id hC
  cases (show some (Instr.aastore, 1) = some q from hq)
  cases hn
  subst hv
  cases z with
  | none =>
    show W p l e R s m args below meth c H locs cells slots Q (F0 m pc ls (.null :: .int i :: .ref ax :: vs))
    rcases (show t = 3 ∨ t = 4 ∨ t = 5 ∨ t = 6 by omega) with rfl | rfl | rfl | rfl
    · exact va_astqN he hb hG.1 hP hD hS kk 3 hws rfl hin hd k
    · exact va_astqN he hb hG.1 hP hD hS kk 4 hws rfl hin hd k
    · exact va_astqN he hb hG.1 hP hD hS kk 5 hws rfl hin hd k
    · exact va_astqN he hb hG.1 hP hD hS kk 6 hws rfl hin hd k
  | some a2 =>
    show W p l e R s m args below meth c H locs cells slots Q (F0 m pc ls (.ref a2 :: .int i :: .ref ax :: vs))
    obtain ⟨k2, vs2, hws2⟩ := hz a2 rfl
    rcases (show t = 3 ∨ t = 4 ∨ t = 5 ∨ t = 6 by omega) with rfl | rfl | rfl | rfl
    · exact va_astq (r := (ee_c4, ee_T4, 8)) he hb hG.1 hP hD hS kk 3 k2 4 hws rfl hws2 rfl hin hd k
    · exact va_astq (r := (ee_c5, ee_T5, 11)) he hb hG.1 hP hD hS kk 4 k2 5 hws rfl hws2 rfl hin hd k
    · exact va_astq (r := (ee_c3, ee_T3, 14)) he hb hG.1 hP hD hS kk 5 k2 3 hws rfl hws2 rfl hin hd k
    · exact va_astq (r := (ee_c10, ee_T10, 3)) he hb hG.1 hP hD hS kk 6 k2 10 hws rfl hws2 rfl hin hd k
theorem sm_34 (hC : ee_C p s m args meth c D dA xa xt B y) (hs : ee_sc y pc (34, a, b, n) = true) (hP : va_P D ee_cl ws H) {kk ax t : Nat} {x : vp_A} (ht : t ≤ 6) (hws : ws[kk]? = some (ax, .inl (dA t, x)))
    (k : W p l e R s m args below meth c H locs cells slots Q (F0 m (pc + n) ls (.int (Int32.ofNat x.1) :: vs))) : W p l e R s m args below meth c H locs cells slots Q (F0 m pc ls (.ref ax :: vs)) := by
  obtain ⟨q, hq, hd, hn, hx, -⟩ := ee_sc_spec hs
  obtain ⟨he, hb, hml, hown, hts, hG, -⟩ := id hC
  cases (show some (Instr.arraylength, 1) = some q from hq)
  cases hn
  rcases (show t = 0 ∨ t = 1 ∨ t = 2 ∨ t = 3 ∨ t = 4 ∨ t = 5 ∨ t = 6 by omega) with rfl | rfl | rfl | rfl | rfl | rfl | rfl
  · exact va_alen he hb hG.1 hP kk 0 hws rfl rfl hd k
  · exact va_alen he hb hG.1 hP kk 1 hws rfl rfl hd k
  · exact va_alen he hb hG.1 hP kk 2 hws rfl rfl hd k
  · exact va_alen he hb hG.1 hP kk 3 hws rfl rfl hd k
  · exact va_alen he hb hG.1 hP kk 4 hws rfl rfl hd k
  · exact va_alen he hb hG.1 hP kk 5 hws rfl rfl hd k
  · exact va_alen he hb hG.1 hP kk 6 hws rfl rfl hd k
end SM2
