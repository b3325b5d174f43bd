/-! ===== the reference's copies(from, to), by its loop ===== -/
section ECK
variable {p : Program} {l : Launch} {e : Env} {R : Room} {s : State} {m : MethodId} {args : Array Value} {below : List Frame} {meth : Method} {c : Code} {Q : State → Prop} {D : va_G} {dA : Nat → ClassId} {xa : List Nat} {xt : ee_X} {B : Nat}
theorem ee_cop_loop (hC : ee_C p s m args meth c D dA xa xt B ee_yk) {ws : va_W} {k ka ax aa ff tt : Nat} {vs9 : List Value} {g : Nat → Int32} {fi : Nat} (hff : ff ≤ 4) (htt : tt ≤ 4) (hne : ff ≠ tt) (hk : ws[k]? = some (ax, .inr (11, vs9))) (hv0 : vs9[0]? = some (.ref aa)) (hka : ws[ka]? = some (aa, .inl (dA 0, 7900, .inl g)))
    (fin : ∀ (gi : Nat → Int32) (H : Heap) (locs : List Loc) (ls : Array Slot), (∀ j, gi j = if 1580 * tt ≤ j ∧ j < 1580 * tt + 1580 then g (1580 * ff + (j - 1580 * tt)) else g j) → va_P D ee_cl (ws.set ka (aa, .inl (dA 0, 7900, .inl gi))) H → va_D (fun q => B ≤ q) (ws.set ka (aa, .inl (dA 0, 7900, .inl gi))) → va_S (fun q => B ≤ q) s.heap H locs → W p l e R s m args below meth c H locs 0 0 Q (F0 m 39 ls [])) :
    ∀ (n i : Nat), i + n = 1580 → ∀ (gi : Nat → Int32) (H : Heap) (locs : List Loc) (ls : Array Slot), (∀ j, gi j = if 1580 * tt ≤ j ∧ j < 1580 * tt + i then g (1580 * ff + (j - 1580 * tt)) else g j) → va_P D ee_cl (ws.set ka (aa, .inl (dA 0, 7900, .inl gi))) H → va_D (fun q => B ≤ q) (ws.set ka (aa, .inl (dA 0, 7900, .inl gi))) → va_S (fun q => B ≤ q) s.heap H locs → lv_has ls 4 [(3, .int (nI i)), (0, .ref ax), (1, .int (nI ff)), (2, .int (nI tt))] →
      W p l e R s m args below meth c H locs 0 0 Q (F0 m 2 ls []) := by
  obtain ⟨hx, hb, hml, hown, hts, hG, hB, -⟩ := hC
  have hkk : k ≠ ka := fun z => by
    subst z
    rw [hk] at hka
    cases hka
  obtain ⟨C, T, N, fs0, ecx, ecl, -, -, hin, hty, hnm, hdecl, -, -, -⟩ := ee_cls (ci := 11) (by decide)
  have hN : 0 < N := by
    have : (ee_cx 11).2.2 = 22 := by decide +kernel
    rw [ecx] at this
    show 0 < N
    have h9 : N = 22 := this
    omega
  have hlen : ka < ws.length := (List.getElem?_eq_some_iff.mp hka).1
  have hlink : (Cond.fieldLink (ee_on.getD (ee_yc ee_yk) "") 7 C (T 0).2.1 (T 0).2.2.1).before args s = true := by
    refine hts _ (ee_word (y := ee_yk) (a := 7) (kind := 1) (b := 704) (by decide +kernel) (by decide) (by decide) (by decide) ?_)
    show some _ = some _
    rw [show (704 / 64 : Nat) = 11 from rfl, ecx]
  intro n
  induction n with
  | zero =>
    intro i hi gi H locs ls hgi hP hD hS hl
    have e1 : i = 1580 := by omega
    subst e1
    refine lv_iload_n hx hb (show decode (ee_cb ee_yk) 2 = .ok (.iload_n 3, 1) by decide +kernel) rfl (lv_at hl 0 rfl) ?_
    refine lv_sipush (v := nI 1580) hx hb (show decode (ee_cb ee_yk) 3 = .ok (.sipush 1580, 3) by decide +kernel) (by decide +kernel) ?_
    refine lv_icmp_ge (tgt := 39) hx hb (show decode (ee_cb ee_yk) 6 = .ok (.if_icmp .ge 33, 3) by decide +kernel) (by decide) (fun _ => ?_) (fun z => absurd (by decide +kernel) z)
    exact fin gi H locs ls hgi hP hD hS
  | succ n ih =>
    intro i hi gi H locs ls hgi hP hD hS hl
    have hw0 : (ws.set ka (aa, .inl (dA 0, 7900, .inl gi)))[k]? = some (ax, .inr (11, vs9)) := by rw [List.getElem?_set_ne (fun z => hkk z.symm)]; exact hk
    have hw1 : (ws.set ka (aa, .inl (dA 0, 7900, .inl gi)))[ka]? = some (aa, .inl (dA 0, 7900, .inl gi)) := List.getElem?_set_self hlen
    refine lv_iload_n hx hb (show decode (ee_cb ee_yk) 2 = .ok (.iload_n 3, 1) by decide +kernel) rfl (lv_at hl 0 rfl) ?_
    refine lv_sipush (v := nI 1580) hx hb (show decode (ee_cb ee_yk) 3 = .ok (.sipush 1580, 3) by decide +kernel) (by decide +kernel) ?_
    refine lv_icmp_ge (tgt := 39) hx hb (show decode (ee_cb ee_yk) 6 = .ok (.if_icmp .ge 33, 3) by decide +kernel) (by decide) (fun z => absurd z (nI_ge (by omega) (by omega))) (fun _ => ?_)
    refine lv_aload_n hx hb (show decode (ee_cb ee_yk) 9 = .ok (.aload_n 0, 1) by decide +kernel) rfl (lv_at hl 1 rfl) ?_
    refine va_get (ci := 11) (v := .ref aa) hx hb hts hin hown hG.1 hP k hw0 ecl 0 hN hlink (fun x h9 => by rw [hdecl _ hN] at h9; exact h9) hv0 (show decode (ee_cb ee_yk) 10 = .ok (.getfield 7, 3) by decide +kernel) ?_
    refine lv_sipush (v := nI 1580) hx hb (show decode (ee_cb ee_yk) 13 = .ok (.sipush 1580, 3) by decide +kernel) (by decide +kernel) ?_
    refine lv_iload_n hx hb (show decode (ee_cb ee_yk) 16 = .ok (.iload_n 2, 1) by decide +kernel) rfl (lv_at hl 3 rfl) ?_
    refine lv_imul hx hb (show decode (ee_cb ee_yk) 17 = .ok (.imul, 1) by decide +kernel) ?_
    refine lv_iload_n hx hb (show decode (ee_cb ee_yk) 18 = .ok (.iload_n 3, 1) by decide +kernel) rfl (lv_at hl 0 rfl) ?_
    refine lv_iadd hx hb (show decode (ee_cb ee_yk) 19 = .ok (.iadd, 1) by decide +kernel) ?_
    refine lv_aload_n hx hb (show decode (ee_cb ee_yk) 20 = .ok (.aload_n 0, 1) by decide +kernel) rfl (lv_at hl 1 rfl) ?_
    refine va_get (ci := 11) (v := .ref aa) hx hb hts hin hown hG.1 hP k hw0 ecl 0 hN hlink (fun x h9 => by rw [hdecl _ hN] at h9; exact h9) hv0 (show decode (ee_cb ee_yk) 21 = .ok (.getfield 7, 3) by decide +kernel) ?_
    refine lv_sipush (v := nI 1580) hx hb (show decode (ee_cb ee_yk) 24 = .ok (.sipush 1580, 3) by decide +kernel) (by decide +kernel) ?_
    refine lv_iload_n hx hb (show decode (ee_cb ee_yk) 27 = .ok (.iload_n 1, 1) by decide +kernel) rfl (lv_at hl 2 rfl) ?_
    refine lv_imul hx hb (show decode (ee_cb ee_yk) 28 = .ok (.imul, 1) by decide +kernel) ?_
    refine lv_iload_n hx hb (show decode (ee_cb ee_yk) 29 = .ok (.iload_n 3, 1) by decide +kernel) rfl (lv_at hl 0 rfl) ?_
    refine lv_iadd hx hb (show decode (ee_cb ee_yk) 30 = .ok (.iadd, 1) by decide +kernel) ?_
    rw [pk_mul, nI_add, pk_mul, nI_add]
    refine va_iald hx hb hG.1 hP ka 0 hw1 rfl (vp_in_nI (by omega) (by omega)) (show decode (ee_cb ee_yk) 31 = .ok (.iaload, 1) by decide +kernel) ?_
    refine va_iast hx hb hG.1 hP hD hS ka 0 hw1 rfl (vp_in_nI (by omega) (by omega)) (show decode (ee_cb ee_yk) 32 = .ok (.iastore, 1) by decide +kernel) (fun H1 locs1 hP1 hD1 hS1 => ?_)
    rw [nI_clamp (by omega), nI_clamp (by omega), List.set_set] at hP1 hD1
    refine lv_iinc (v := nI (i + 1)) (lv' := [(3, .int (nI (i + 1))), (0, .ref ax), (1, .int (nI ff)), (2, .int (nI tt))]) hx hb (show decode (ee_cb ee_yk) 33 = .ok (.iinc 3 1, 3) by decide +kernel) hl (k := 0) rfl (nI_1 i) (by decide) rfl (fun ls hl => ?_)
    refine lv_goto (tgt := 2) hx hb (show decode (ee_cb ee_yk) 36 = .ok (.goto (-34), 3) by decide +kernel) (by decide) ?_
    refine ih (i + 1) (by omega) _ H1 locs1 ls (fun j => ?_) hP1 hD1 hS1 hl
    by_cases hj : j = 1580 * tt + i
    · rw [hj, pk_us, hgi, if_neg (by omega), if_pos (by omega)]
      congr 1
      omega
    · rw [pk_un hj, hgi]
      by_cases hj2 : 1580 * tt ≤ j ∧ j < 1580 * tt + i
      · rw [if_pos hj2, if_pos (by omega)]
      · rw [if_neg hj2, if_neg (by omega)]
end ECK
/-! the block that is copied -/
theorem ab_c37w : (ab_c37.all fun cc => (ab_rgs cc).all fun rr => Nat.blt rr.2.1 (nat_lit 1580) && (Nat.beq rr.1 (nat_lit 1) || (Nat.beq rr.1 (nat_lit 4) && Nat.blt rr.2.2.1 (nat_lit 4)))) = true := by decide +kernel
theorem ab_cls37 : ab_cls 37 = ab_c37 := rfl
theorem ab_ko37 : ab_ko 37 = none := by decide +kernel
theorem ab_ka37 : ab_ka 37 = some (0, 7900, 7900) := by decide +kernel
theorem ab_cn_lt : ∀ cc ∈ ab_cn, cc < 1580 := by decide +kernel
theorem ab_hd_blk {ws ws' : va_W} {cA : ClassId} {f f' : Nat → Int32} (heq : ∀ j, j < 1580 → f' j = f j) {cc : ab_Cl} (hc : cc ∈ ab_c37) (h : ab_hd ws (.inl (cA, 7900, .inl f)) cc) : ab_hd ws' (.inl (cA, 7900, .inl f')) cc := by
  refine ab_hd_same2 (fun rr hr => ?_) h
  have h1 := List.all_eq_true.mp (List.all_eq_true.mp ab_c37w cc hc) rr hr
  rw [Bool.and_eq_true, Bool.or_eq_true, Bool.and_eq_true] at h1
  have hlt : rr.2.1 < 1580 := Nat.le_of_ble_eq_true h1.1
  obtain ⟨t1, t2, t3, t4⟩ := rr
  dsimp only at h1 hlt
  rcases h1.2 with h2 | ⟨h2, h3⟩
  · have e1 : t1 = 1 := Nat.eq_of_beq_eq_true h2
    subst e1
    show (if t2 < 7900 then some (f' t2).toInt else none) = (if t2 < 7900 then some (f t2).toInt else none)
    rw [heq t2 hlt]
  · have e1 : t1 = 4 := Nat.eq_of_beq_eq_true h2
    subst e1
    have h3' : t3 < 4 := Nat.le_of_ble_eq_true h3
    show (if (t2 < 7900 ∧ 1580 ≤ 7900 ∧ t3 < 4) ∧ 0 ≤ (f' t2).toInt ∧ (f' t2).toInt ≤ 19 then some (f' (540 + 200 * t3 + 4 * (f' t2).toInt.toNat)).toInt else none) = (if (t2 < 7900 ∧ 1580 ≤ 7900 ∧ t3 < 4) ∧ 0 ≤ (f t2).toInt ∧ (f t2).toInt ≤ 19 then some (f (540 + 200 * t3 + 4 * (f t2).toInt.toNat)).toInt else none)
    rw [heq t2 hlt]
    by_cases hif : (t2 < 7900 ∧ 1580 ≤ 7900 ∧ t3 < 4) ∧ 0 ≤ (f t2).toInt ∧ (f t2).toInt ≤ 19
    · rw [if_pos hif, if_pos hif, heq _ (by omega)]
    · rw [if_neg hif, if_neg hif]
theorem ab_row7_blk {f f' : Nat → Int32} (heq : ∀ j, j < 1580 → f' j = f j) {o l9 : Nat} (ho : o + 4 * l9 + 3 < 1580) (h : ab_row7 f o l9) : ab_row7 f' o l9 := by
  unfold ab_row7 at h ⊢
  rw [heq (o + 4 * l9) (by omega), heq (o + 4 * l9 + 1) (by omega), heq (o + 4 * l9 + 2) (by omega), heq (o + 4 * l9 + 3) (by omega)]
  exact h
theorem ab_sr_blk {f f' : Nat → Int32} (heq : ∀ j, j < 1580 → f' j = f j) (h : ab_sr f) : ab_sr f' := fun t ht l9 hl => ab_row7_blk heq (by omega) (h t ht l9 hl)
theorem ab_gd_blk {f f' : Nat → Int32} (heq : ∀ j, j < 1580 → f' j = f j) (h : ab_gd f) : ab_gd f' := ⟨fun j hj => by rw [heq j hj]; exact h.1 j hj, fun cA cc hc => ab_hd_blk heq hc (h.2.1 cA cc hc), ab_sr_blk heq h.2.2⟩
theorem ab_tv_i {ks ad ks' ad' : List Nat} {x : Int32} {t : ab_T} (h : ab_tv ks ad (.int x) t) : ab_tv ks' ad' (.int x) t := by
  match t, h with
  | .inl q, h => exact h
  | .inr (.inl n), .inl ⟨k9, a9, e1, e2, e3⟩ => cases e3
  | .inr (.inl n), .inr ⟨_, h9⟩ => cases h9
  | .inr (.inr _), _ => exact Or.inr (Or.inr ⟨x, rfl⟩)
section CLW
variable {cls : Nat → List ab_Cl} {dA : Nat → ClassId} {xa : List Nat} {ks : List Nat} {ws : va_W} {rv : List Int} {sv : List (Nat × Nat)}
theorem ab_CL_w {A : Nat → Prop} {dt : List (Nat × ab_Key)} (hCL : ab_CL cls ks ws rv sv dt) (hok : ab_cok cls) (hT : ab_TW dA ks ws) (hD : va_D A ws) {kk ax κ N : Nat} {cA : ClassId} {c1 c2 : (Nat → Int32) ⊕ ((Nat → Int64) ⊕ ((Nat → UInt32) ⊕ ((Nat → UInt64) ⊕ (Nat → Option Nat))))}
    (hk : ws[kk]? = some (ax, .inl (cA, N, c1))) (hκ : ks[kk]? = some κ) (him : κ ≠ 17) (hnew : ∀ cc ∈ cls κ, ab_hd (ws.set kk (ax, .inl (cA, N, c2))) (.inl (cA, N, c2)) cc) : ab_CL cls ks (ws.set kk (ax, .inl (cA, N, c2))) rv sv dt := by
  intro k9 κ9 a9 e9 g1 g2 cc hc hp
  have hlt := (List.getElem?_eq_some_iff.mp hk).1
  have har : ∀ (vs : List Value) (aa : Nat), (vs[aa]? = some (.ref ax) ∧ ab_ar (ws.set kk (ax, .inl (cA, N, c2))) vs aa = some (ax, .inl (cA, N, c2)) ∧ ab_ar ws vs aa = some (ax, .inl (cA, N, c1))) ∨ ab_ar (ws.set kk (ax, .inl (cA, N, c2))) vs aa = ab_ar ws vs aa := by
    intro vs aa
    unfold ab_ar
    split
    · rename_i q9 hq9
      rcases ab_find_set (yy := (ax, .inl (cA, N, c2))) hk rfl q9 with h9 | ⟨h8, h9⟩
      · exact Or.inr h9
      · have h7 := List.find?_some h8
        have h6 : ax = q9 := by simpa using h7
        subst h6
        exact Or.inl ⟨hq9, h9, h8⟩
    · exact Or.inr rfl
  by_cases hkk : k9 = kk
  · subst hkk
    rw [hκ] at g1
    cases g1
    rw [List.getElem?_set_self hlt] at g2
    cases g2
    exact hnew cc hc
  · rw [List.getElem?_set_ne (fun z9 => hkk z9.symm)] at g2
    refine ab_hd_same2 (fun rr hr => ?_) (hCL k9 κ9 a9 e9 g1 g2 cc hc hp)
    obtain ⟨t1, t2, t3, t4⟩ := rr
    match t1, e9, g2, hr with
    | 0, _, _, hr => exact ab_cr_nows (Or.inl rfl)
    | 1, _, _, hr => exact ab_cr_nows (Or.inr (Or.inl rfl))
    | 4, _, _, hr => exact ab_cr_nows (Or.inr (Or.inr rfl))
    | 2, .inl z9, _, hr => rw [ab_cr_arr (show (2 : Nat) ≠ 1 ∧ (2 : Nat) ≠ 4 by decide), ab_cr_arr (show (2 : Nat) ≠ 1 ∧ (2 : Nat) ≠ 4 by decide)]
    | 2, .inr (ci, vs), g2, hr =>
      show (match ab_ar (ws.set kk (ax, .inl (cA, N, c2))) vs t2 with
        | some (_, .inl (_, n, _)) => some (n : Int)
        | _ => none) = (match ab_ar ws vs t2 with
        | some (_, .inl (_, n, _)) => some (n : Int)
        | _ => none)
      rcases har vs t2 with ⟨-, h8, h9⟩ | h9
      · rw [h8, h9]
      · rw [h9]
    | 3, .inl z9, _, hr => rw [ab_cr_arr (show (3 : Nat) ≠ 1 ∧ (3 : Nat) ≠ 4 by decide), ab_cr_arr (show (3 : Nat) ≠ 1 ∧ (3 : Nat) ≠ 4 by decide)]
    | 3, .inr (ci, vs), g2, hr =>
      show (match ab_ar (ws.set kk (ax, .inl (cA, N, c2))) vs t2, ab_fi vs t3 with
        | some (_, .inl (_, n, .inl f)), some x => if 0 ≤ x ∧ 4 * x + (t4 : Int) < (n : Int) then some (f (4 * x + t4).toNat).toInt else none
        | _, _ => none) = (match ab_ar ws vs t2, ab_fi vs t3 with
        | some (_, .inl (_, n, .inl f)), some x => if 0 ≤ x ∧ 4 * x + (t4 : Int) < (n : Int) then some (f (4 * x + t4).toNat).toInt else none
        | _, _ => none)
      rcases har vs t2 with ⟨h7, h8, h9⟩ | h9
      · exfalso
        obtain ⟨ci9, ts9, mm, o1, o2, o3⟩ := (hok κ9 cc hc _ hr).1 rfl
        obtain ⟨a8, e8, w1, w2⟩ := hT.2 k9 κ9 g1
        rw [g2] at w1
        cases w1
        obtain ⟨vs8, x1, x2, x3⟩ := w2.1 _ _ o1
        cases x1
        obtain ⟨v8, y1, y2⟩ := x3 _ _ o2
        have y1' : vs[t2]? = some v8 := y1
        rw [h7] at y1'
        cases y1'
        rcases y2 with ⟨k7, a7, z1, z2, z3⟩ | ⟨-, z3⟩
        · cases z3
          rw [List.getElem?_map] at z2
          cases hw7 : ws[k7]? with
          | none => rw [hw7] at z2; cases z2
          | some q7 =>
            rw [hw7] at z2
            have e7 : q7.1 = ax := Option.some.inj z2
            have hk7 : k7 = kk := hD.1 k7 kk q7 _ hw7 hk e7
            subst hk7
            rw [hκ] at z1
            exact him ((Option.some.inj z1).trans o3)
        · cases z3
      · rw [h9]
    | t1 + 5, .inl z9, _, hr => rw [ab_cr_arr (show t1 + 5 ≠ 1 ∧ t1 + 5 ≠ 4 by omega), ab_cr_arr (show t1 + 5 ≠ 1 ∧ t1 + 5 ≠ 4 by omega)]
    | t1 + 5, .inr (ci, vs), _, hr => rfl
end CLW
theorem ab_cop_int {x : Int32} {n : Nat} (hn : n ≤ 4) (h : (n : Int) = x.toInt) : x = nI n := by
  apply Int32.toInt_inj.mp
  rw [nI_toInt (by omega), ← h]
theorem ab_cop_ct {l : Launch} {D : va_G} {dA : Nat → ClassId} {xa : List Nat} {xt : ee_X} {B : Nat} {ff tt : Nat} (hff : ff ≤ 4) (htt : tt ≤ 4) (hne : ff ≠ tt) (h00 : ff = 0 ∨ tt = 0) {F0 : List ab_F} {iv : List (Int × Int)} {mask X : Nat} (hmask : ab_wm mask 37 = true) (hX : tt ≠ 0 → X.testBit tt = false)
    (hF1 : ((0, (0, 0, 0, 0), .inr (.inl 3)) : ab_F) ∈ F0) (hF2 : ((1, (6, 1, 1, 0), .inl (0, 0, 0)) : ab_F) ∈ F0) (hF3 : ff = 0 ∨ ((1, (8, 0, 0, (ff : Int)), .inl (0, 0, 0)) : ab_F) ∈ F0) (hF4 : ((1, (1, 0, 0, ((1580 * ff + 8 : Nat) : Int)), .inl (2, 1, 0)) : ab_F) ∈ F0) (hz : tt = 0 → ab_wm mask 99 = true) :
    ab_CT ab_cls l D dA xa xt B ((133, 1), (0, 0), ([.inr (.inl 1), .inl (0, 0, (ff : Int)), .inl (0, 0, (tt : Int))], (iv, [], [38, 37], F0, [])), [(none, (iv, [], [38, 37], [(1, (1, 0, 0, ((1580 * tt + 8 : Nat) : Int)), .inl (2, 1, 0)), (1, (1, 0, 0, ((1580 * ff + 8 : Nat) : Int)), .inl (2, 1, 0)), (1, (6, 1, 1, 0), .inl (0, 0, 0)), (1, (8, 0, 0, ((ff + tt : Nat) : Int)), .inl (0, 0, 0))], []), 0, 0)], mask, X) := by
  intro d hd ke ks0 ws0 rv0 sv0 vs0 hG0 hA0 h29
  dsimp only at hd hG0 hA0 ⊢
  match vs0, hA0 with
  | [v0, v1, v2], ⟨o0, ⟨x1, e1, hx1⟩, ⟨x2, e2, hx2⟩, _⟩ =>
    subst e1; subst e2
    have y1 : ab_ev rv0 (0, 0, (ff : Int)) = some (ff : Int) := ab_ev0 rfl
    have y2 : ab_ev rv0 (0, 0, (tt : Int)) = some (tt : Int) := ab_ev0 rfl
    rw [y1] at hx1
    rw [y2] at hx2
    have ex1 : x1 = nI ff := ab_cop_int hff (Option.some.inj hx1)
    have ex2 : x2 = nI tt := ab_cop_int htt (Option.some.inj hx2)
    subst ex1; subst ex2
    obtain ⟨q0, hq0, rfl⟩ := ab_nnul (z := 0) rfl o0
    have hq0' : sv0[0]? = some q0 := hq0
    obtain ⟨q0', e0, i1, i2, i3⟩ := hG0.2.2.1.2 0 38 rfl
    rw [hq0'] at i1
    cases i1
    obtain ⟨q1, e1, j1, j2, j3⟩ := hG0.2.2.1.2 1 37 rfl
    obtain ⟨a8, e8, u1, u2⟩ := hG0.2.2.2.2.1.2 _ 37 j2
    rw [j3] at u1
    cases u1
    obtain ⟨g, rfl, htyp⟩ : ∃ g : Nat → Int32, e1 = .inl (dA 0, 7900, .inl g) ∧ ∀ j, j < 7900 → ab_tv ks0 (ws0.map (·.1)) (.int (g j)) (ab_ke 37 j) := by
      rcases u2.2.1 _ _ _ ab_ka37 with ⟨-, n9, g, rfl, h5, h6, h7⟩ | ⟨h9, -⟩ | ⟨h9, -⟩
      · have e9 : n9 = 7900 := by omega
        subst e9
        exact ⟨g, rfl, h7⟩
      · cases h9
      · omega
    obtain ⟨a9, e9, r1, r2⟩ := hG0.2.2.2.2.1.2 _ 38 i2
    rw [i3] at r1
    cases r1
    obtain ⟨ts9, hts9⟩ : ∃ ts9, ab_ko 38 = some (11, ts9) := ⟨_, rfl⟩
    obtain ⟨vs9, rfl, hvl, -⟩ := r2.1 _ _ hts9
    have hv9 : vs9[0]? = some (.ref q1.2) := by
      obtain ⟨qa, ea, ia, va, f1, f2, f3, f4, f5⟩ := hG0.2.2.2.1 _ hF1
      have f1' : sv0[0]? = some qa := f1
      rw [hq0'] at f1'
      cases f1'
      rw [i3] at f2
      cases f2
      have f3' : some ((0 : Nat) : Int) = some ia := f3
      cases f3'
      have f4' : vs9[((0 : Nat) : Int).toNat]? = some va := f4
      obtain ⟨qb, b1, rfl⟩ := ab_nnul (z := 2) rfl f5
      have b1' : sv0[1]? = some qb := b1
      rw [j1] at b1'
      cases b1'
      exact f4'
    have hphi : ∀ gi : Nat → Int32, ab_ph ke ks0 (ws0.set q1.1 (q1.2, .inl (dA 0, 7900, .inl gi))) = ab_ph ke ks0 ws0 := fun gi => ab_ph_st j3
    refine ct_met (d := d) (c' := 0 + (6144 - ab_ph ke ks0 ws0 / 1024)) (s' := 0 + (6291456 - ab_ph ke ks0 ws0)) (by decide +kernel) (by decide +kernel) ?_ ?_
    · rintro vs ws ⟨rfl, rfl⟩
      exact (by decide : (3 : Nat) ≤ 4)
    · rintro p e s m vs below meth c ws ls hC ⟨rfl, rfl⟩ hP hD hS hlv
      obtain ⟨hx, hb, hml9, hown, hts, hG, hB, hlk, hrt, hnm, hyM⟩ := id hC
      have hl3 : lv_has ls 4 [(0, .ref q0.2), (1, .int (nI ff)), (2, .int (nI tt))] := hlv
      refine lv_iconst (v := nI 0) hx hb (show decode (ee_cb ee_yk) 0 = .ok (.iconst 0, 1) by decide +kernel) (by decide +kernel) ?_
      refine lv_istore_n (lv' := [(3, .int (nI 0)), (0, .ref q0.2), (1, .int (nI ff)), (2, .int (nI tt))]) hx hb (show decode (ee_cb ee_yk) 1 = .ok (.istore_n 3, 1) by decide +kernel) rfl hl3 (by decide) rfl (fun ls hl4 => ?_)
      have hself : ws.set q1.1 (q1.2, .inl (dA 0, 7900, .inl g)) = ws := by
        apply List.ext_getElem?
        intro i
        by_cases hik : i = q1.1
        · subst hik
          rw [List.getElem?_set_self (List.getElem?_eq_some_iff.mp j3).1, j3]
        · rw [List.getElem?_set_ne (fun z => hik z.symm)]
      refine ee_cop_loop hC (fi := 0) (ff := ff) (tt := tt) (by omega) (by omega) hne i3 hv9 j3 ?_ 1580 0 rfl g s.heap [] ls (fun j => by rw [if_neg (by omega)]) (by rw [hself]; exact hP) (by rw [hself]; exact hD) hS hl4
      intro gi H1 locs1 ls1 hgi hP1 hD1 hS1
      have hlt : q1.1 < ws.length := (List.getElem?_eq_some_iff.mp j3).1
      have hst : ab_px (sv0, (ks0, ws), ab_wm mask, ke, X, ab_ph ke ks0 ws) ks0 ws sv0 := ⟨List.prefix_refl sv0, ⟨ab_kp_rf, fun k κ q _ h2 => Or.inl h2, h29⟩, Nat.le_refl _⟩
      -- block 0 before
      have hg0 : ab_gd g := by
        refine ⟨fun j hj => ab_tv_i (htyp j (by omega)), fun cA cc hc => ?_, ?_⟩
        · have h9 := hG0.2.2.2.2.2 q1.1 37 q1.2 _ j2 j3 cc (by rw [ab_cls37]; exact hc) (fun pp _ ho => by
            obtain ⟨d9, hd9, -⟩ := ho
            cases hd9)
          refine ab_hd_same2 (fun rr hr => ?_) (ab_hd_blk (ws' := []) (f' := g) (fun _ _ => rfl) hc h9)
          have h1 := List.all_eq_true.mp (List.all_eq_true.mp ab_c37w cc hc) rr hr
          rw [Bool.and_eq_true, Bool.or_eq_true, Bool.and_eq_true] at h1
          obtain ⟨t1, t2, t3, t4⟩ := rr
          rcases h1.2 with h2 | ⟨h2, h3⟩
          · have e1 : t1 = 1 := Nat.eq_of_beq_eq_true h2
            subst e1
            rfl
          · have e1 : t1 = 4 := Nat.eq_of_beq_eq_true h2
            subst e1
            rfl
        · obtain ⟨cA, n9, f9, h9, h8⟩ := u2.2.2.2 rfl
          cases h9
          exact h8
      -- the block that was written
      have hgb : ∀ b : Nat, b ≤ 4 → ∃ b' : Nat, b' ≤ 4 ∧ ∀ j, j < 1580 → gi (1580 * b + j) = g (1580 * b' + j) := by
        intro b hb4
        by_cases hbt : b = tt
        · subst hbt
          refine ⟨ff, hff, fun j hj => ?_⟩
          rw [hgi, if_pos (by omega)]
          congr 1
          omega
        · refine ⟨b, hb4, fun j hj => ?_⟩
          rw [hgi, if_neg (by omega)]
      have hg8 : ff ≠ 0 → ab_gd (fun j => g (1580 * ff + j)) := by
        intro hf0
        rcases hF3 with h9 | h9
        · exact absurd h9 hf0
        · obtain ⟨qa, ea, ia, va, f1, f2, f3, f4, f5⟩ := hG0.2.2.2.1 _ h9
          have f1' : sv0[1]? = some qa := f1
          rw [j1] at f1'
          cases f1'
          rw [j3] at f2
          cases f2
          have f3' : ab_ev rv0 (0, 0, (ff : Int)) = some ia := f3
          rw [ab_ev0 rfl] at f3'
          have f3'' : ((ff : Nat) : Int) = ia := Option.some.inj f3'
          subst f3''
          obtain ⟨⟨cA, n9, f9, h8, h7⟩, -⟩ := ab_rd_q2 (t := 5) f4
          cases h8
          have h6 := h7.2
          rw [Int.toNat_natCast] at h6
          exact h6
      -- the first block now
      have hgn : ab_gd gi := by
        by_cases ht0 : tt = 0
        · have hf0 : ff ≠ 0 := fun z => hne (z.trans ht0.symm)
          refine ab_gd_blk (fun j hj => ?_) (hg8 hf0)
          rw [hgi, if_pos (by omega)]
          congr 1
          omega
        · refine ab_gd_blk (fun j hj => ?_) hg0
          rw [hgi, if_neg (by omega)]
      have hg9 : ab_gd (fun j => gi (1580 * (ff + tt) + j)) := by
        by_cases ht0 : tt = 0
        · have hf0 : ff ≠ 0 := fun z => hne (z.trans ht0.symm)
          refine ab_gd_blk (fun j hj => ?_) (hg8 hf0)
          rw [hgi, if_neg (by omega), ht0, Nat.add_zero]
        · have hf0 : ff = 0 := h00.resolve_right ht0
          refine ab_gd_blk (fun j hj => ?_) hg0
          rw [hgi, if_pos (by omega)]
          congr 1
          omega
      have hset : (ws.set q1.1 (q1.2, (.inl (dA 0, 7900, .inl gi) : va_E)))[q1.1]? = some (q1.2, .inl (dA 0, 7900, .inl gi)) := List.getElem?_set_self hlt
      have hcell : ab_cell dA ks0 (ws.map (·.1)) 37 (.inl (dA 0, 7900, .inl gi)) := by
        refine ⟨fun ci ts h9 => (by rw [ab_ko37] at h9; cases h9), fun t9 lo9 hi9 h9 => ?_, fun h9 => absurd h9 (by decide), fun _ => ⟨_, 7900, gi, rfl, hgn.2.2⟩⟩
        rw [ab_ka37] at h9
        cases h9
        refine Or.inl ⟨Or.inl rfl, 7900, gi, rfl, by decide, by decide, fun i hi => ?_⟩
        by_cases hi5 : i < 1580
        · exact ab_tv_i (hgn.1 i hi5)
        · have e9 : ab_ke 37 i = .inl (-2147483648, 2147483647) := by
            show ab_all i = _
            unfold ab_all
            rw [ee_cf (by
              cases hz : Nat.blt i (nat_lit 1580) with
              | false => rfl
              | true =>
                have h8 : i < 1580 := Nat.le_of_ble_eq_true hz
                exact absurd h8 hi5)]
          rw [e9]
          exact ⟨gi i, rfl, (ab_i32 _).1, (ab_i32 _).2⟩
      have hS8 : ∀ b : Nat, b ≤ 4 → gi (1580 * b + 8) = g (1580 * ff + 8) → ab_fact rv0 sv0 xa (ws.set q1.1 (q1.2, .inl (dA 0, 7900, .inl gi))) (1, (1, 0, 0, ((1580 * b + 8 : Nat) : Int)), .inl (2, 1, 0)) := by
        intro b hb hgb8
        obtain ⟨qa, ea, ia, va, f1, f2, f3, f4, f5⟩ := hG0.2.2.2.1 _ hF4
        have f1' : sv0[1]? = some qa := f1
        rw [j1] at f1'
        cases f1'
        rw [j3] at f2
        cases f2
        have f3' : ab_ev rv0 (0, 0, ((1580 * ff + 8 : Nat) : Int)) = some ia := f3
        rw [ab_ev0 rfl] at f3'
        have f3'' : ((1580 * ff + 8 : Nat) : Int) = ia := Option.some.inj f3'
        subst f3''
        have f4' : (if 0 ≤ ((1580 * ff + 8 : Nat) : Int) ∧ ((1580 * ff + 8 : Nat) : Int) < ((7900 : Nat) : Int) then some (Value.int (g ((1580 * ff + 8 : Nat) : Int).toNat)) else none) = some va := f4
        rw [if_pos ⟨by omega, by omega⟩, Int.toNat_natCast] at f4'
        refine ⟨q1, _, ((1580 * b + 8 : Nat) : Int), va, j1, hset, ab_ev0 rfl, ?_, f5⟩
        show (if 0 ≤ ((1580 * b + 8 : Nat) : Int) ∧ ((1580 * b + 8 : Nat) : Int) < ((7900 : Nat) : Int) then some (Value.int (gi ((1580 * b + 8 : Nat) : Int).toNat)) else none) = some va
        rw [if_pos ⟨by omega, by omega⟩, Int.toNat_natCast, hgb8]
        exact f4'
      have hG1 : ab_G ab_cls dA xa ks0 (ws.set q1.1 (q1.2, .inl (dA 0, 7900, .inl gi))) rv0 sv0 (iv, [], [38, 37], [(1, (1, 0, 0, ((1580 * tt + 8 : Nat) : Int)), .inl (2, 1, 0)), (1, (1, 0, 0, ((1580 * ff + 8 : Nat) : Int)), .inl (2, 1, 0)), (1, (6, 1, 1, 0), .inl (0, 0, 0)), (1, (8, 0, 0, ((ff + tt : Nat) : Int)), .inl (0, 0, 0))], []) := by
        refine ⟨hG0.1, hG0.2.1, ab_Kn_set hG0.2.2.1 j3, fun g9 h9 => ?_, ab_TW_arr hG0.2.2.2.2.1 j3 j2 hcell, ab_CL_w hG0.2.2.2.2.2 ab_hcok hG0.2.2.2.2.1 hD j3 j2 (by decide) (fun cc hc => ab_hd_blk (ws := []) (f := gi) (fun _ _ => rfl) (by rw [← ab_cls37]; exact hc) (hgn.2.1 _ cc (by rw [← ab_cls37]; exact hc)))⟩
        rcases List.mem_cons.mp h9 with rfl | h9
        · exact hS8 tt htt (by
            rw [hgi, if_pos (by omega)]
            congr 1
            omega)
        rcases List.mem_cons.mp h9 with rfl | h9
        · exact hS8 ff hff (by rw [hgi, if_neg (by omega)])
        rcases List.mem_cons.mp h9 with rfl | h9
        · obtain ⟨qa, ea, ia, va, f1, f2, f3, f4, f5⟩ := hG0.2.2.2.1 _ hF2
          have f1' : sv0[1]? = some qa := f1
          rw [j1] at f1'
          cases f1'
          rw [j3] at f2
          cases f2
          obtain ⟨⟨cA, n9, f9, h8, h7⟩, h6⟩ := ab_rd_q2 (t := 3) f4
          cases h8
          refine ⟨q1, _, ia, va, j1, hset, f3, ?_, f5⟩
          rw [h6]
          refine ab_rd_q (t := 3) ⟨dA 0, 7900, gi, rfl, rfl, fun b hb5 cc hcc => ?_⟩
          obtain ⟨b', hb', hbe⟩ := hgb b (by omega)
          rw [hbe cc (ab_cn_lt cc hcc)]
          exact h7.2 b' (by omega) cc hcc
        · rw [List.mem_singleton.mp h9]
          refine ⟨q1, _, ((ff + tt : Nat) : Int), .int 0, j1, hset, ab_ev0 rfl, ab_rd_q (t := 5) ⟨dA 0, 7900, gi, rfl, rfl, ?_⟩, ⟨0, rfl, ab_ev0 rfl⟩⟩
          rw [Int.toNat_natCast]
          exact hg9
      have hpx : ab_px (sv0, (ks0, ws), ab_wm mask, ke, X, ab_ph ke ks0 ws) ks0 (ws.set q1.1 (q1.2, .inl (dA 0, 7900, .inl gi))) sv0 := ab_px_set hst j3 j2 hmask (ab_sm_in (fun _ i hi => by
        rw [hgi]
        by_cases hit : 1580 * tt ≤ i ∧ i < 1580 * tt + 1580
        · exfalso
          rcases hi with ⟨hi, hx9⟩ | ⟨hi, hz9⟩
          · have e9 : i / 1580 = tt := by omega
            rw [e9] at hx9
            rw [hX (fun z => by omega)] at hx9
            cases hx9
          · have ht0 : tt = 0 := by omega
            have hz8 : ab_wm mask 99 = false := hz9
            rw [hz ht0] at hz8
            cases hz8
        · rw [if_neg hit])) (hphi gi)
      refine sm_53 (y := ee_yk) (pc := 39) (a := 0) (b := 0) (n := 1) (by decide +kernel) hC (by decide +kernel) (by decide +kernel) hP1 hD1 hS1 ?_
      refine ⟨_, ks0, rv0, sv0, List.mem_cons_self, List.prefix_refl rv0, hpx, hG1, trivial, ?_, ?_⟩
      · rw [hphi gi]
        exact (by omega : (0 : Nat) = 0 + (ab_ph ke ks0 ws / 1024 - ab_ph ke ks0 ws / 1024))
      · rw [hphi gi]
        exact (by omega : (0 : Nat) = 0 + (ab_ph ke ks0 ws - ab_ph ke ks0 ws))
def kk_133_0 : ab_K := ((nat_lit 133, nat_lit 1), (nat_lit 0, nat_lit 0), ([.inr (.inl (nat_lit 1)), .inl (nat_lit 0, .ofNat (nat_lit 0), .ofNat (nat_lit 0)), .inl (nat_lit 0, .ofNat (nat_lit 0), .ofNat (nat_lit 1))], ([(.ofNat (nat_lit 0), .ofNat (nat_lit 8990000)), (.ofNat (nat_lit 0), .ofNat (nat_lit 3000)), (.ofNat (nat_lit 0), .ofNat (nat_lit 400))], [], [nat_lit 38, nat_lit 37], [(nat_lit 0, (nat_lit 0, nat_lit 0, .ofNat (nat_lit 0), .ofNat (nat_lit 0)), .inr (.inl (nat_lit 3))), (nat_lit 1, (nat_lit 6, nat_lit 1, .ofNat (nat_lit 1), .ofNat (nat_lit 0)), .inl (nat_lit 0, .ofNat (nat_lit 0), .ofNat (nat_lit 0))), (nat_lit 1, (nat_lit 1, nat_lit 0, .ofNat (nat_lit 0), .ofNat (nat_lit 8)), .inl (nat_lit 2, .ofNat (nat_lit 1), .ofNat (nat_lit 0)))], [])), [(none, ([(.ofNat (nat_lit 0), .ofNat (nat_lit 8990000)), (.ofNat (nat_lit 0), .ofNat (nat_lit 3000)), (.ofNat (nat_lit 0), .ofNat (nat_lit 400))], [], [nat_lit 38, nat_lit 37], [(nat_lit 1, (nat_lit 1, nat_lit 0, .ofNat (nat_lit 0), .ofNat (nat_lit 1588)), .inl (nat_lit 2, .ofNat (nat_lit 1), .ofNat (nat_lit 0))), (nat_lit 1, (nat_lit 1, nat_lit 0, .ofNat (nat_lit 0), .ofNat (nat_lit 8)), .inl (nat_lit 2, .ofNat (nat_lit 1), .ofNat (nat_lit 0))), (nat_lit 1, (nat_lit 6, nat_lit 1, .ofNat (nat_lit 1), .ofNat (nat_lit 0)), .inl (nat_lit 0, .ofNat (nat_lit 0), .ofNat (nat_lit 0))), (nat_lit 1, (nat_lit 8, nat_lit 0, .ofNat (nat_lit 0), .ofNat (nat_lit 1)), .inl (nat_lit 0, .ofNat (nat_lit 0), .ofNat (nat_lit 0)))], []), nat_lit 0, nat_lit 0)], nat_lit 137438953472, nat_lit 147573917405304324124)
theorem kk_133_0_t {l : Launch} {D : va_G} {dA : Nat → ClassId} {xa : List Nat} {xt : ee_X} {B : Nat} (_ : xt[1]? = some (some ab_rnd)) : ab_CT ab_cls l D dA xa xt B kk_133_0 := ab_cop_ct (ff := 0) (tt := 1) (by decide) (by decide) (by decide) (Or.inl rfl) (by decide +kernel) (fun h9 => by decide +kernel) List.mem_cons_self (List.mem_cons_of_mem _ List.mem_cons_self) (Or.inl rfl) (List.mem_cons_of_mem _ (List.mem_cons_of_mem _ List.mem_cons_self)) (fun h9 => absurd h9 (by decide))
def kk_133_1 : ab_K := ((nat_lit 133, nat_lit 1), (nat_lit 0, nat_lit 0), ([.inr (.inl (nat_lit 1)), .inl (nat_lit 0, .ofNat (nat_lit 0), .ofNat (nat_lit 0)), .inl (nat_lit 0, .ofNat (nat_lit 0), .ofNat (nat_lit 2))], ([(.ofNat (nat_lit 0), .ofNat (nat_lit 8990000)), (.ofNat (nat_lit 0), .ofNat (nat_lit 3000)), (.ofNat (nat_lit 0), .ofNat (nat_lit 400))], [], [nat_lit 38, nat_lit 37], [(nat_lit 0, (nat_lit 0, nat_lit 0, .ofNat (nat_lit 0), .ofNat (nat_lit 0)), .inr (.inl (nat_lit 3))), (nat_lit 1, (nat_lit 6, nat_lit 1, .ofNat (nat_lit 1), .ofNat (nat_lit 0)), .inl (nat_lit 0, .ofNat (nat_lit 0), .ofNat (nat_lit 0))), (nat_lit 1, (nat_lit 1, nat_lit 0, .ofNat (nat_lit 0), .ofNat (nat_lit 8)), .inl (nat_lit 2, .ofNat (nat_lit 1), .ofNat (nat_lit 0)))], [])), [(none, ([(.ofNat (nat_lit 0), .ofNat (nat_lit 8990000)), (.ofNat (nat_lit 0), .ofNat (nat_lit 3000)), (.ofNat (nat_lit 0), .ofNat (nat_lit 400))], [], [nat_lit 38, nat_lit 37], [(nat_lit 1, (nat_lit 1, nat_lit 0, .ofNat (nat_lit 0), .ofNat (nat_lit 3168)), .inl (nat_lit 2, .ofNat (nat_lit 1), .ofNat (nat_lit 0))), (nat_lit 1, (nat_lit 1, nat_lit 0, .ofNat (nat_lit 0), .ofNat (nat_lit 8)), .inl (nat_lit 2, .ofNat (nat_lit 1), .ofNat (nat_lit 0))), (nat_lit 1, (nat_lit 6, nat_lit 1, .ofNat (nat_lit 1), .ofNat (nat_lit 0)), .inl (nat_lit 0, .ofNat (nat_lit 0), .ofNat (nat_lit 0))), (nat_lit 1, (nat_lit 8, nat_lit 0, .ofNat (nat_lit 0), .ofNat (nat_lit 2)), .inl (nat_lit 0, .ofNat (nat_lit 0), .ofNat (nat_lit 0)))], []), nat_lit 0, nat_lit 0)], nat_lit 137438953472, nat_lit 147573917405304324122)
theorem kk_133_1_t {l : Launch} {D : va_G} {dA : Nat → ClassId} {xa : List Nat} {xt : ee_X} {B : Nat} (_ : xt[1]? = some (some ab_rnd)) : ab_CT ab_cls l D dA xa xt B kk_133_1 := ab_cop_ct (ff := 0) (tt := 2) (by decide) (by decide) (by decide) (Or.inl rfl) (by decide +kernel) (fun h9 => by decide +kernel) List.mem_cons_self (List.mem_cons_of_mem _ List.mem_cons_self) (Or.inl rfl) (List.mem_cons_of_mem _ (List.mem_cons_of_mem _ List.mem_cons_self)) (fun h9 => absurd h9 (by decide))
def kk_133_2 : ab_K := ((nat_lit 133, nat_lit 1), (nat_lit 0, nat_lit 0), ([.inr (.inl (nat_lit 1)), .inl (nat_lit 0, .ofNat (nat_lit 0), .ofNat (nat_lit 0)), .inl (nat_lit 0, .ofNat (nat_lit 0), .ofNat (nat_lit 3))], ([(.ofNat (nat_lit 0), .ofNat (nat_lit 8990000)), (.ofNat (nat_lit 0), .ofNat (nat_lit 3000)), (.ofNat (nat_lit 0), .ofNat (nat_lit 400))], [], [nat_lit 38, nat_lit 37], [(nat_lit 0, (nat_lit 0, nat_lit 0, .ofNat (nat_lit 0), .ofNat (nat_lit 0)), .inr (.inl (nat_lit 3))), (nat_lit 1, (nat_lit 6, nat_lit 1, .ofNat (nat_lit 1), .ofNat (nat_lit 0)), .inl (nat_lit 0, .ofNat (nat_lit 0), .ofNat (nat_lit 0))), (nat_lit 1, (nat_lit 1, nat_lit 0, .ofNat (nat_lit 0), .ofNat (nat_lit 8)), .inl (nat_lit 2, .ofNat (nat_lit 1), .ofNat (nat_lit 0)))], [])), [(none, ([(.ofNat (nat_lit 0), .ofNat (nat_lit 8990000)), (.ofNat (nat_lit 0), .ofNat (nat_lit 3000)), (.ofNat (nat_lit 0), .ofNat (nat_lit 400))], [], [nat_lit 38, nat_lit 37], [(nat_lit 1, (nat_lit 1, nat_lit 0, .ofNat (nat_lit 0), .ofNat (nat_lit 4748)), .inl (nat_lit 2, .ofNat (nat_lit 1), .ofNat (nat_lit 0))), (nat_lit 1, (nat_lit 1, nat_lit 0, .ofNat (nat_lit 0), .ofNat (nat_lit 8)), .inl (nat_lit 2, .ofNat (nat_lit 1), .ofNat (nat_lit 0))), (nat_lit 1, (nat_lit 6, nat_lit 1, .ofNat (nat_lit 1), .ofNat (nat_lit 0)), .inl (nat_lit 0, .ofNat (nat_lit 0), .ofNat (nat_lit 0))), (nat_lit 1, (nat_lit 8, nat_lit 0, .ofNat (nat_lit 0), .ofNat (nat_lit 3)), .inl (nat_lit 0, .ofNat (nat_lit 0), .ofNat (nat_lit 0)))], []), nat_lit 0, nat_lit 0)], nat_lit 137438953472, nat_lit 147573917405304324118)
theorem kk_133_2_t {l : Launch} {D : va_G} {dA : Nat → ClassId} {xa : List Nat} {xt : ee_X} {B : Nat} (_ : xt[1]? = some (some ab_rnd)) : ab_CT ab_cls l D dA xa xt B kk_133_2 := ab_cop_ct (ff := 0) (tt := 3) (by decide) (by decide) (by decide) (Or.inl rfl) (by decide +kernel) (fun h9 => by decide +kernel) List.mem_cons_self (List.mem_cons_of_mem _ List.mem_cons_self) (Or.inl rfl) (List.mem_cons_of_mem _ (List.mem_cons_of_mem _ List.mem_cons_self)) (fun h9 => absurd h9 (by decide))
def kk_133_3 : ab_K := ((nat_lit 133, nat_lit 1), (nat_lit 0, nat_lit 0), ([.inr (.inl (nat_lit 1)), .inl (nat_lit 0, .ofNat (nat_lit 0), .ofNat (nat_lit 0)), .inl (nat_lit 0, .ofNat (nat_lit 0), .ofNat (nat_lit 4))], ([(.ofNat (nat_lit 0), .ofNat (nat_lit 8990000)), (.ofNat (nat_lit 0), .ofNat (nat_lit 3000)), (.ofNat (nat_lit 0), .ofNat (nat_lit 400))], [], [nat_lit 38, nat_lit 37], [(nat_lit 0, (nat_lit 0, nat_lit 0, .ofNat (nat_lit 0), .ofNat (nat_lit 0)), .inr (.inl (nat_lit 3))), (nat_lit 1, (nat_lit 6, nat_lit 1, .ofNat (nat_lit 1), .ofNat (nat_lit 0)), .inl (nat_lit 0, .ofNat (nat_lit 0), .ofNat (nat_lit 0))), (nat_lit 1, (nat_lit 1, nat_lit 0, .ofNat (nat_lit 0), .ofNat (nat_lit 8)), .inl (nat_lit 2, .ofNat (nat_lit 1), .ofNat (nat_lit 0)))], [])), [(none, ([(.ofNat (nat_lit 0), .ofNat (nat_lit 8990000)), (.ofNat (nat_lit 0), .ofNat (nat_lit 3000)), (.ofNat (nat_lit 0), .ofNat (nat_lit 400))], [], [nat_lit 38, nat_lit 37], [(nat_lit 1, (nat_lit 1, nat_lit 0, .ofNat (nat_lit 0), .ofNat (nat_lit 6328)), .inl (nat_lit 2, .ofNat (nat_lit 1), .ofNat (nat_lit 0))), (nat_lit 1, (nat_lit 1, nat_lit 0, .ofNat (nat_lit 0), .ofNat (nat_lit 8)), .inl (nat_lit 2, .ofNat (nat_lit 1), .ofNat (nat_lit 0))), (nat_lit 1, (nat_lit 6, nat_lit 1, .ofNat (nat_lit 1), .ofNat (nat_lit 0)), .inl (nat_lit 0, .ofNat (nat_lit 0), .ofNat (nat_lit 0))), (nat_lit 1, (nat_lit 8, nat_lit 0, .ofNat (nat_lit 0), .ofNat (nat_lit 4)), .inl (nat_lit 0, .ofNat (nat_lit 0), .ofNat (nat_lit 0)))], []), nat_lit 0, nat_lit 0)], nat_lit 137438953472, nat_lit 147573917405304324110)
theorem kk_133_3_t {l : Launch} {D : va_G} {dA : Nat → ClassId} {xa : List Nat} {xt : ee_X} {B : Nat} (_ : xt[1]? = some (some ab_rnd)) : ab_CT ab_cls l D dA xa xt B kk_133_3 := ab_cop_ct (ff := 0) (tt := 4) (by decide) (by decide) (by decide) (Or.inl rfl) (by decide +kernel) (fun h9 => by decide +kernel) List.mem_cons_self (List.mem_cons_of_mem _ List.mem_cons_self) (Or.inl rfl) (List.mem_cons_of_mem _ (List.mem_cons_of_mem _ List.mem_cons_self)) (fun h9 => absurd h9 (by decide))
def kk_133_4 : ab_K := ((nat_lit 133, nat_lit 1), (nat_lit 0, nat_lit 0), ([.inr (.inl (nat_lit 1)), .inl (nat_lit 0, .ofNat (nat_lit 0), .ofNat (nat_lit 1)), .inl (nat_lit 0, .ofNat (nat_lit 0), .ofNat (nat_lit 0))], ([(.ofNat (nat_lit 0), .ofNat (nat_lit 8990000)), (.ofNat (nat_lit 0), .ofNat (nat_lit 3000)), (.ofNat (nat_lit 0), .ofNat (nat_lit 400))], [], [nat_lit 38, nat_lit 37], [(nat_lit 0, (nat_lit 0, nat_lit 0, .ofNat (nat_lit 0), .ofNat (nat_lit 0)), .inr (.inl (nat_lit 3))), (nat_lit 1, (nat_lit 6, nat_lit 1, .ofNat (nat_lit 1), .ofNat (nat_lit 0)), .inl (nat_lit 0, .ofNat (nat_lit 0), .ofNat (nat_lit 0))), (nat_lit 1, (nat_lit 8, nat_lit 0, .ofNat (nat_lit 0), .ofNat (nat_lit 1)), .inl (nat_lit 0, .ofNat (nat_lit 0), .ofNat (nat_lit 0))), (nat_lit 1, (nat_lit 1, nat_lit 0, .ofNat (nat_lit 0), .ofNat (nat_lit 1588)), .inl (nat_lit 2, .ofNat (nat_lit 1), .ofNat (nat_lit 0)))], [])), [(none, ([(.ofNat (nat_lit 0), .ofNat (nat_lit 8990000)), (.ofNat (nat_lit 0), .ofNat (nat_lit 3000)), (.ofNat (nat_lit 0), .ofNat (nat_lit 400))], [], [nat_lit 38, nat_lit 37], [(nat_lit 1, (nat_lit 1, nat_lit 0, .ofNat (nat_lit 0), .ofNat (nat_lit 8)), .inl (nat_lit 2, .ofNat (nat_lit 1), .ofNat (nat_lit 0))), (nat_lit 1, (nat_lit 1, nat_lit 0, .ofNat (nat_lit 0), .ofNat (nat_lit 1588)), .inl (nat_lit 2, .ofNat (nat_lit 1), .ofNat (nat_lit 0))), (nat_lit 1, (nat_lit 6, nat_lit 1, .ofNat (nat_lit 1), .ofNat (nat_lit 0)), .inl (nat_lit 0, .ofNat (nat_lit 0), .ofNat (nat_lit 0))), (nat_lit 1, (nat_lit 8, nat_lit 0, .ofNat (nat_lit 0), .ofNat (nat_lit 1)), .inl (nat_lit 0, .ofNat (nat_lit 0), .ofNat (nat_lit 0)))], []), nat_lit 0, nat_lit 0)], nat_lit 633825300114114700885790556160, nat_lit 147573917405304324126)
theorem kk_133_4_t {l : Launch} {D : va_G} {dA : Nat → ClassId} {xa : List Nat} {xt : ee_X} {B : Nat} (_ : xt[1]? = some (some ab_rnd)) : ab_CT ab_cls l D dA xa xt B kk_133_4 := ab_cop_ct (ff := 1) (tt := 0) (by decide) (by decide) (by decide) (Or.inr rfl) (by decide +kernel) (fun h9 => absurd rfl h9) List.mem_cons_self (List.mem_cons_of_mem _ List.mem_cons_self) (Or.inr (List.mem_cons_of_mem _ (List.mem_cons_of_mem _ List.mem_cons_self))) (List.mem_cons_of_mem _ (List.mem_cons_of_mem _ (List.mem_cons_of_mem _ List.mem_cons_self))) (fun _ => by decide +kernel)
def kk_133_5 : ab_K := ((nat_lit 133, nat_lit 1), (nat_lit 0, nat_lit 0), ([.inr (.inl (nat_lit 1)), .inl (nat_lit 0, .ofNat (nat_lit 0), .ofNat (nat_lit 2)), .inl (nat_lit 0, .ofNat (nat_lit 0), .ofNat (nat_lit 0))], ([(.ofNat (nat_lit 0), .ofNat (nat_lit 8990000)), (.ofNat (nat_lit 0), .ofNat (nat_lit 3000)), (.ofNat (nat_lit 0), .ofNat (nat_lit 400))], [], [nat_lit 38, nat_lit 37], [(nat_lit 0, (nat_lit 0, nat_lit 0, .ofNat (nat_lit 0), .ofNat (nat_lit 0)), .inr (.inl (nat_lit 3))), (nat_lit 1, (nat_lit 6, nat_lit 1, .ofNat (nat_lit 1), .ofNat (nat_lit 0)), .inl (nat_lit 0, .ofNat (nat_lit 0), .ofNat (nat_lit 0))), (nat_lit 1, (nat_lit 8, nat_lit 0, .ofNat (nat_lit 0), .ofNat (nat_lit 2)), .inl (nat_lit 0, .ofNat (nat_lit 0), .ofNat (nat_lit 0))), (nat_lit 1, (nat_lit 1, nat_lit 0, .ofNat (nat_lit 0), .ofNat (nat_lit 3168)), .inl (nat_lit 2, .ofNat (nat_lit 1), .ofNat (nat_lit 0)))], [])), [(none, ([(.ofNat (nat_lit 0), .ofNat (nat_lit 8990000)), (.ofNat (nat_lit 0), .ofNat (nat_lit 3000)), (.ofNat (nat_lit 0), .ofNat (nat_lit 400))], [], [nat_lit 38, nat_lit 37], [(nat_lit 1, (nat_lit 1, nat_lit 0, .ofNat (nat_lit 0), .ofNat (nat_lit 8)), .inl (nat_lit 2, .ofNat (nat_lit 1), .ofNat (nat_lit 0))), (nat_lit 1, (nat_lit 1, nat_lit 0, .ofNat (nat_lit 0), .ofNat (nat_lit 3168)), .inl (nat_lit 2, .ofNat (nat_lit 1), .ofNat (nat_lit 0))), (nat_lit 1, (nat_lit 6, nat_lit 1, .ofNat (nat_lit 1), .ofNat (nat_lit 0)), .inl (nat_lit 0, .ofNat (nat_lit 0), .ofNat (nat_lit 0))), (nat_lit 1, (nat_lit 8, nat_lit 0, .ofNat (nat_lit 0), .ofNat (nat_lit 2)), .inl (nat_lit 0, .ofNat (nat_lit 0), .ofNat (nat_lit 0)))], []), nat_lit 0, nat_lit 0)], nat_lit 633825300114114700885790556160, nat_lit 147573917405304324126)
theorem kk_133_5_t {l : Launch} {D : va_G} {dA : Nat → ClassId} {xa : List Nat} {xt : ee_X} {B : Nat} (_ : xt[1]? = some (some ab_rnd)) : ab_CT ab_cls l D dA xa xt B kk_133_5 := ab_cop_ct (ff := 2) (tt := 0) (by decide) (by decide) (by decide) (Or.inr rfl) (by decide +kernel) (fun h9 => absurd rfl h9) List.mem_cons_self (List.mem_cons_of_mem _ List.mem_cons_self) (Or.inr (List.mem_cons_of_mem _ (List.mem_cons_of_mem _ List.mem_cons_self))) (List.mem_cons_of_mem _ (List.mem_cons_of_mem _ (List.mem_cons_of_mem _ List.mem_cons_self))) (fun _ => by decide +kernel)
def kk_133_6 : ab_K := ((nat_lit 133, nat_lit 1), (nat_lit 0, nat_lit 0), ([.inr (.inl (nat_lit 1)), .inl (nat_lit 0, .ofNat (nat_lit 0), .ofNat (nat_lit 3)), .inl (nat_lit 0, .ofNat (nat_lit 0), .ofNat (nat_lit 0))], ([(.ofNat (nat_lit 0), .ofNat (nat_lit 8990000)), (.ofNat (nat_lit 0), .ofNat (nat_lit 3000)), (.ofNat (nat_lit 0), .ofNat (nat_lit 400))], [], [nat_lit 38, nat_lit 37], [(nat_lit 0, (nat_lit 0, nat_lit 0, .ofNat (nat_lit 0), .ofNat (nat_lit 0)), .inr (.inl (nat_lit 3))), (nat_lit 1, (nat_lit 6, nat_lit 1, .ofNat (nat_lit 1), .ofNat (nat_lit 0)), .inl (nat_lit 0, .ofNat (nat_lit 0), .ofNat (nat_lit 0))), (nat_lit 1, (nat_lit 8, nat_lit 0, .ofNat (nat_lit 0), .ofNat (nat_lit 3)), .inl (nat_lit 0, .ofNat (nat_lit 0), .ofNat (nat_lit 0))), (nat_lit 1, (nat_lit 1, nat_lit 0, .ofNat (nat_lit 0), .ofNat (nat_lit 4748)), .inl (nat_lit 2, .ofNat (nat_lit 1), .ofNat (nat_lit 0)))], [])), [(none, ([(.ofNat (nat_lit 0), .ofNat (nat_lit 8990000)), (.ofNat (nat_lit 0), .ofNat (nat_lit 3000)), (.ofNat (nat_lit 0), .ofNat (nat_lit 400))], [], [nat_lit 38, nat_lit 37], [(nat_lit 1, (nat_lit 1, nat_lit 0, .ofNat (nat_lit 0), .ofNat (nat_lit 8)), .inl (nat_lit 2, .ofNat (nat_lit 1), .ofNat (nat_lit 0))), (nat_lit 1, (nat_lit 1, nat_lit 0, .ofNat (nat_lit 0), .ofNat (nat_lit 4748)), .inl (nat_lit 2, .ofNat (nat_lit 1), .ofNat (nat_lit 0))), (nat_lit 1, (nat_lit 6, nat_lit 1, .ofNat (nat_lit 1), .ofNat (nat_lit 0)), .inl (nat_lit 0, .ofNat (nat_lit 0), .ofNat (nat_lit 0))), (nat_lit 1, (nat_lit 8, nat_lit 0, .ofNat (nat_lit 0), .ofNat (nat_lit 3)), .inl (nat_lit 0, .ofNat (nat_lit 0), .ofNat (nat_lit 0)))], []), nat_lit 0, nat_lit 0)], nat_lit 633825300114114700885790556160, nat_lit 147573917405304324126)
theorem kk_133_6_t {l : Launch} {D : va_G} {dA : Nat → ClassId} {xa : List Nat} {xt : ee_X} {B : Nat} (_ : xt[1]? = some (some ab_rnd)) : ab_CT ab_cls l D dA xa xt B kk_133_6 := ab_cop_ct (ff := 3) (tt := 0) (by decide) (by decide) (by decide) (Or.inr rfl) (by decide +kernel) (fun h9 => absurd rfl h9) List.mem_cons_self (List.mem_cons_of_mem _ List.mem_cons_self) (Or.inr (List.mem_cons_of_mem _ (List.mem_cons_of_mem _ List.mem_cons_self))) (List.mem_cons_of_mem _ (List.mem_cons_of_mem _ (List.mem_cons_of_mem _ List.mem_cons_self))) (fun _ => by decide +kernel)
def kk_133_7 : ab_K := ((nat_lit 133, nat_lit 1), (nat_lit 0, nat_lit 0), ([.inr (.inl (nat_lit 1)), .inl (nat_lit 0, .ofNat (nat_lit 0), .ofNat (nat_lit 4)), .inl (nat_lit 0, .ofNat (nat_lit 0), .ofNat (nat_lit 0))], ([(.ofNat (nat_lit 0), .ofNat (nat_lit 8990000)), (.ofNat (nat_lit 0), .ofNat (nat_lit 3000)), (.ofNat (nat_lit 0), .ofNat (nat_lit 400))], [], [nat_lit 38, nat_lit 37], [(nat_lit 0, (nat_lit 0, nat_lit 0, .ofNat (nat_lit 0), .ofNat (nat_lit 0)), .inr (.inl (nat_lit 3))), (nat_lit 1, (nat_lit 6, nat_lit 1, .ofNat (nat_lit 1), .ofNat (nat_lit 0)), .inl (nat_lit 0, .ofNat (nat_lit 0), .ofNat (nat_lit 0))), (nat_lit 1, (nat_lit 8, nat_lit 0, .ofNat (nat_lit 0), .ofNat (nat_lit 4)), .inl (nat_lit 0, .ofNat (nat_lit 0), .ofNat (nat_lit 0))), (nat_lit 1, (nat_lit 1, nat_lit 0, .ofNat (nat_lit 0), .ofNat (nat_lit 6328)), .inl (nat_lit 2, .ofNat (nat_lit 1), .ofNat (nat_lit 0)))], [])), [(none, ([(.ofNat (nat_lit 0), .ofNat (nat_lit 8990000)), (.ofNat (nat_lit 0), .ofNat (nat_lit 3000)), (.ofNat (nat_lit 0), .ofNat (nat_lit 400))], [], [nat_lit 38, nat_lit 37], [(nat_lit 1, (nat_lit 1, nat_lit 0, .ofNat (nat_lit 0), .ofNat (nat_lit 8)), .inl (nat_lit 2, .ofNat (nat_lit 1), .ofNat (nat_lit 0))), (nat_lit 1, (nat_lit 1, nat_lit 0, .ofNat (nat_lit 0), .ofNat (nat_lit 6328)), .inl (nat_lit 2, .ofNat (nat_lit 1), .ofNat (nat_lit 0))), (nat_lit 1, (nat_lit 6, nat_lit 1, .ofNat (nat_lit 1), .ofNat (nat_lit 0)), .inl (nat_lit 0, .ofNat (nat_lit 0), .ofNat (nat_lit 0))), (nat_lit 1, (nat_lit 8, nat_lit 0, .ofNat (nat_lit 0), .ofNat (nat_lit 4)), .inl (nat_lit 0, .ofNat (nat_lit 0), .ofNat (nat_lit 0)))], []), nat_lit 0, nat_lit 0)], nat_lit 633825300114114700885790556160, nat_lit 147573917405304324126)
theorem kk_133_7_t {l : Launch} {D : va_G} {dA : Nat → ClassId} {xa : List Nat} {xt : ee_X} {B : Nat} (_ : xt[1]? = some (some ab_rnd)) : ab_CT ab_cls l D dA xa xt B kk_133_7 := ab_cop_ct (ff := 4) (tt := 0) (by decide) (by decide) (by decide) (Or.inr rfl) (by decide +kernel) (fun h9 => absurd rfl h9) List.mem_cons_self (List.mem_cons_of_mem _ List.mem_cons_self) (Or.inr (List.mem_cons_of_mem _ (List.mem_cons_of_mem _ List.mem_cons_self))) (List.mem_cons_of_mem _ (List.mem_cons_of_mem _ (List.mem_cons_of_mem _ List.mem_cons_self))) (fun _ => by decide +kernel)
