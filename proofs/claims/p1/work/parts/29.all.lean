/-! ===== every box of every case ===== -/
def ee_WB (k : Nat) (b : List (Nat × Nat)) : Prop := ∀ (p : Program) (l : Launch) (e : Env) (s : State) (m : MethodId) (below : List Frame) (meth : Method) (c : Code) (D : va_G) (dA : Nat → ClassId) (xa ad0 : List Nat) (bb : Nat), ee_C p s m #[Value.ref bb] meth c D dA xa (ee_XB b) s.heap.size 0 → ee_WS p l e room_1 s m #[Value.ref bb] below meth c (lw_Z below #[Value.ref bb] s) D dA xa s.heap.size ad0 0 (ee_a33 k)
theorem ee_WBf {k : Nat} {b : List (Nat × Nat)} (h : ee_fin (ee_XB b) (ee_a33 k) = true) : ee_WB k b := fun _ _ _ _ _ _ _ _ _ _ _ _ _ hC => ee_fin_snd hC h
theorem ee_WBc {k : Nat} {b : List (Nat × Nat)} {call : Nat → List ee_V → ee_H → Option ee_R} (hc : ∀ (l : Launch) (D : va_G) (dA : Nat → ClassId) (xa : List Nat) (B : Nat), ee_CS l D dA xa ee_X0 B 11 call) (h : ee_fic call (ee_XB b) (ee_a33 k) = true) : ee_WB k b := fun _ l _ _ _ _ _ _ D dA xa _ _ hC => ee_fic_snd (ee_CS_more ee_xle0 (hc l D dA xa _)) hC h
theorem ee_w0 : ∀ b ∈ ee_bx0, ee_WB (nat_lit 2147483648) b := by
  intro b hb
  unfold ee_bx0 at hb
  rcases List.mem_cons.mp hb with rfl | hb
  · exact ee_WBf ee_fh0_0
  · exact ee_WBf (ee_fs_mem ee_fl0 b hb)
theorem ee_w1 : ∀ b ∈ ee_bx1, ee_WB (nat_lit 2147483649) b := fun b hb => ee_WBf (ee_fs_mem ee_fl1 b hb)
theorem ee_w2 : ∀ b ∈ ee_bx2, ee_WB (nat_lit 2147483650) b := fun b hb => ee_WBf (ee_fs_mem ee_fl2 b hb)
theorem ee_w3 : ∀ b ∈ ee_bx3, ee_WB (nat_lit 2147483651) b := fun b hb => ee_WBf (ee_fs_mem ee_fl3 b hb)
theorem ee_w4 : ∀ b ∈ ee_bx4, ee_WB (nat_lit 2147483652) b := fun b hb => ee_WBf (ee_fs_mem ee_fl4 b hb)
theorem ee_w5 : ∀ b ∈ ee_bx5, ee_WB (nat_lit 2147483653) b := fun b hb => ee_WBf (ee_fs_mem ee_fl5 b hb)
theorem ee_w6 : ∀ b ∈ ee_bx6, ee_WB (nat_lit 2147483654) b := fun b hb => ee_WBf (ee_fs_mem ee_fl6 b hb)
theorem ee_w7 : ∀ b ∈ ee_bx7, ee_WB (nat_lit 2147483655) b := fun b hb => ee_WBf (ee_fs_mem ee_fl7 b hb)
theorem ee_w9 : ∀ b ∈ ee_bx9, ee_WB (nat_lit 2147483657) b := fun b hb => ee_WBf (ee_fs_mem ee_fl9 b hb)
theorem ee_w10 : ∀ b ∈ ee_bx10, ee_WB (nat_lit 2147483658) b := fun b hb => ee_WBf (ee_fs_mem ee_fl10 b hb)
theorem ee_w11 : ∀ b ∈ ee_bx11, ee_WB (nat_lit 2147483659) b := fun b hb => ee_WBf (ee_fs_mem ee_fl11 b hb)
theorem ee_w12 : ∀ b ∈ ee_bx12, ee_WB (nat_lit 2147483660) b := fun b hb => ee_WBf (ee_fs_mem ee_fl12 b hb)
theorem ee_w13 : ∀ b ∈ ee_bx13, ee_WB (nat_lit 2147483661) b := fun b hb => ee_WBf (ee_fs_mem ee_fl13 b hb)
theorem ee_w14 : ∀ b ∈ ee_bx14, ee_WB (nat_lit 2147483662) b := fun b hb => ee_WBf (ee_fs_mem ee_fl14 b hb)
theorem ee_w15 : ∀ b ∈ ee_bx15, ee_WB (nat_lit 2147483663) b := fun b hb => ee_WBf (ee_fs_mem ee_fl15 b hb)
theorem ee_w16 : ∀ b ∈ ee_bx16, ee_WB (nat_lit 2147483664) b := fun b hb => ee_WBf (ee_fs_mem ee_fl16 b hb)
theorem ee_w17 : ∀ b ∈ ee_bx17, ee_WB (nat_lit 2147483665) b := fun b hb => ee_WBf (ee_fs_mem ee_fl17 b hb)
theorem ee_w18 : ∀ b ∈ ee_bx18, ee_WB (nat_lit 2147483666) b := fun b hb => ee_WBf (ee_fs_mem ee_fl18 b hb)
theorem ee_w19 : ∀ b ∈ ee_bx19, ee_WB (nat_lit 2147483667) b := fun b hb => ee_WBf (ee_fs_mem ee_fl19 b hb)
theorem ee_w20 : ∀ b ∈ ee_bx20, ee_WB (nat_lit 2147483668) b := fun b hb => ee_WBf (ee_fs_mem ee_fl20 b hb)
theorem ee_w21 : ∀ b ∈ ee_bx21, ee_WB (nat_lit 2147483669) b := fun b hb => ee_WBf (ee_fs_mem ee_fl21 b hb)
theorem ee_w22 : ∀ b ∈ ee_bx22, ee_WB (nat_lit 2147483670) b := by
  intro b hb
  unfold ee_bx22 at hb
  rcases List.mem_cons.mp hb with rfl | hb
  · exact ee_WBf ee_fh22_0
  rcases List.mem_cons.mp hb with rfl | hb
  · exact ee_WBf ee_fh22_1
  rcases List.mem_cons.mp hb with rfl | hb
  · exact ee_WBf ee_fh22_2
  rcases List.mem_cons.mp hb with rfl | hb
  · exact ee_WBc (fun _ _ _ _ _ => ee_wkC) ee_fh22_3
  rcases List.mem_cons.mp hb with rfl | hb
  · exact ee_WBc (fun _ _ _ _ _ => ee_wkC) ee_fh22_4
  rcases List.mem_cons.mp hb with rfl | hb
  · exact ee_WBc (fun _ _ _ _ _ => ee_wkC) ee_fh22_5
  rcases List.mem_cons.mp hb with rfl | hb
  · exact ee_WBc (fun _ _ _ _ _ => ee_wkC) ee_fh22_6
  exact ee_WBf (ee_fs_mem ee_fl22 b hb)
theorem ee_w23 : ∀ b ∈ ee_bx23, ee_WB (nat_lit 2147483671) b := fun b hb => ee_WBf (ee_fs_mem ee_fl23 b hb)
theorem ee_w24 : ∀ b ∈ ee_bx24, ee_WB (nat_lit 2147483672) b := fun b hb => ee_WBf (ee_fs_mem ee_fl24 b hb)
theorem ee_w25 : ∀ b ∈ ee_bx25, ee_WB (nat_lit 2147483673) b := fun b hb => ee_WBf (ee_fs_mem ee_fl25 b hb)
theorem ee_w26 : ∀ b ∈ ee_bx26, ee_WB (nat_lit 2147483674) b := fun b hb => ee_WBf (ee_fs_mem ee_fl26 b hb)
theorem ee_w27 : ∀ b ∈ ee_bx27, ee_WB (nat_lit 2147483675) b := fun b hb => ee_WBf (ee_fs_mem ee_fl27 b hb)
theorem ee_w28 : ∀ b ∈ ee_bx28, ee_WB (nat_lit 2147483676) b := fun b hb => ee_WBf (ee_fs_mem ee_fl28 b hb)
theorem ee_w29 : ∀ b ∈ ee_bx29, ee_WB (nat_lit 2147483677) b := fun b hb => ee_WBf (ee_fs_mem ee_fl29 b hb)
theorem ee_w30 : ∀ b ∈ ee_bx30, ee_WB (nat_lit 2147483678) b := fun b hb => ee_WBf (ee_fs_mem ee_fl30 b hb)
theorem ee_w31 : ∀ b ∈ ee_bx31, ee_WB (nat_lit 2147483679) b := fun b hb => ee_WBf (ee_fs_mem ee_fl31 b hb)
theorem ee_w8 {n : Nat} (h1 : 2147483648 ≤ n) (h2 : n < 2147483648 + 201) : ee_WB (nat_lit 2147483656) (ee_b8 n) := by
  have hlt : n - 2147483648 < ee_fxL.length := by rw [ee_fLn]; omega
  obtain ⟨F, hF⟩ : ∃ F, ee_nth ee_fxL (n - 2147483648) = some F := ⟨_, by rw [ee_nth_eq]; exact List.getElem?_eq_getElem hlt⟩
  exact ee_WBc (call := ee_fkk n F) (fun _ _ _ _ _ => ee_fxC h1 h2 hF (ee_fmC h1 h2 (by rw [← ee_fLe]; exact hF) (ee_exe_snd ee_ck 11))) (ee_fa_at ee_faL h1 hF)
section EWH
variable {p : Program} {l : Launch} {e : Env} {s : State} {m : MethodId} {below : List Frame} {meth : Method} {c : Code} {D : va_G} {dA : Nat → ClassId} {xa ad0 : List Nat} {b : Nat} {xs : Nat → Int32}
def ee_zs (xs : Nat → Int32) : List Nat := [ee_z (xs 1), ee_z (xs 2), ee_z (xs 3), ee_z (xs 4), ee_z (xs 5)]
theorem ee_zs_lt : ∀ z ∈ ee_zs xs, z < 4294967296 := by
  intro z hz
  simp only [ee_zs, List.mem_cons, List.not_mem_nil, or_false] at hz
  rcases hz with h | h | h | h | h <;> subst h <;> exact ee_zlt _
theorem ee_tps_ok (n : Nat) : ∀ l, some (ee_tps n) = some l → l.length = n ∧ ∀ i q, l[i]? = some q → ee_in (xs i) q := by
  intro l hl
  cases hl
  refine ⟨List.length_replicate, fun i q hq => ?_⟩
  have hq : (List.replicate n ((nat_lit 0, nat_lit 4294967295) : Nat × Nat))[i]? = some q := hq
  have e9 := List.eq_of_mem_replicate (List.mem_of_getElem? hq)
  subst e9
  have h9 := ee_zlt (xs i)
  exact ⟨Nat.zero_le _, by show ee_z (xs i) ≤ 4294967295; omega⟩
def ee_fits (zs : List Nat) (bx : List (Nat × Nat)) : Prop := ∀ (i : Nat) (q : Nat × Nat) (z : Nat), bx[i]? = some q → zs[i]? = some z → q.1 ≤ z ∧ z ≤ q.2
theorem ee_hCB (hCC : ∀ sc : Option (List (Nat × Nat)), (∀ l, sc = some l → l.length = 6 ∧ ∀ i q, l[i]? = some q → ee_in (xs i) q) → ee_C p s m #[Value.ref b] meth c D dA xa [sc, some ee_round] s.heap.size 0) {bx : List (Nat × Nat)} (h5 : bx.length = 5) (hf : ee_fits (ee_zs xs) bx) : ee_C p s m #[Value.ref b] meth c D dA xa (ee_XB bx) s.heap.size 0 := by
  refine hCC (some ((nat_lit 0, nat_lit 4294967295) :: bx)) (fun l hl => ?_)
  cases hl
  refine ⟨by simp [h5], fun i q hq => ?_⟩
  match i, hq with
  | 0, hq =>
    have hq : some ((nat_lit 0, nat_lit 4294967295) : Nat × Nat) = some q := hq
    cases hq
    have h9 := ee_zlt (xs 0)
    exact ⟨Nat.zero_le _, by show ee_z (xs 0) ≤ 4294967295; omega⟩
  | i + 1, hq =>
    have hq : bx[i]? = some q := by simpa using hq
    have hi : i < 5 := by rw [← h5]; exact (List.getElem?_eq_some_iff.mp hq).1
    match i, hi, hq with
    | 0, _, hq => exact hf 0 q _ hq rfl
    | 1, _, hq => exact hf 1 q _ hq rfl
    | 2, _, hq => exact hf 2 q _ hq rfl
    | 3, _, hq => exact hf 3 q _ hq rfl
    | 4, _, hq => exact hf 4 q _ hq rfl
theorem ee_pick {k : Nat} {cs : List (List Nat)} {bs : List (List (Nat × Nat))} (hcs : cs.length = 5) (hcov : ee_cov cs bs = true) (hbs : ∀ b ∈ bs, ee_WB k b) (hCC : ∀ sc : Option (List (Nat × Nat)), (∀ l, sc = some l → l.length = 6 ∧ ∀ i q, l[i]? = some q → ee_in (xs i) q) → ee_C p s m #[Value.ref b] meth c D dA xa [sc, some ee_round] s.heap.size 0) : ee_WS p l e room_1 s m #[Value.ref b] below meth c (lw_Z below #[Value.ref b] s) D dA xa s.heap.size ad0 0 (ee_a33 k) := by
  obtain ⟨bx, hb, h5, hin⟩ := ee_cov_snd (zs := ee_zs xs) (by rw [hcs]; rfl) ee_zs_lt hcov
  exact hbs bx hb p l e s m below meth c D dA xa ad0 b (ee_hCB hCC (h5.trans hcs) hin)
theorem ee_fit1 {q0 : Nat × Nat} (h : q0.1 ≤ ee_z (xs 1) ∧ ee_z (xs 1) ≤ q0.2) : ee_fits (ee_zs xs) [q0, (nat_lit 0, nat_lit 4294967295), (nat_lit 0, nat_lit 4294967295), (nat_lit 0, nat_lit 4294967295), (nat_lit 0, nat_lit 4294967295)] := by
  have top : ∀ (q : Nat × Nat) (z : Nat), some ((nat_lit 0, nat_lit 4294967295) : Nat × Nat) = some q → z < 4294967296 → q.1 ≤ z ∧ z ≤ q.2 := by
    intro q z hq hz
    cases hq
    exact ⟨Nat.zero_le _, by show z ≤ 4294967295; omega⟩
  intro i q z h1 h2
  have hz := ee_zs_lt z (List.mem_of_getElem? h2)
  match i, h1, h2 with
  | 0, h1, h2 =>
    have h1 : some q0 = some q := h1
    have h2 : some (ee_z (xs 1)) = some z := h2
    cases h1; cases h2
    exact h
  | 1, h1, _ => exact top q z h1 hz
  | 2, h1, _ => exact top q z h1 hz
  | 3, h1, _ => exact top q z h1 hz
  | 4, h1, _ => exact top q z h1 hz
  | i + 5, h1, _ => cases h1
theorem ee_pp8 (hCC : ∀ sc : Option (List (Nat × Nat)), (∀ l, sc = some l → l.length = 6 ∧ ∀ i q, l[i]? = some q → ee_in (xs i) q) → ee_C p s m #[Value.ref b] meth c D dA xa [sc, some ee_round] s.heap.size 0) : ee_WS p l e room_1 s m #[Value.ref b] below meth c (lw_Z below #[Value.ref b] s) D dA xa s.heap.size ad0 0 (ee_a33 (nat_lit 2147483656)) := by
  have hz := ee_zlt (xs 1)
  by_cases h1 : ee_z (xs 1) < 2147483648
  · exact ee_WBf (ee_fs_mem ee_fl8 _ List.mem_cons_self) p l e s m below meth c D dA xa ad0 b (ee_hCB hCC rfl (ee_fit1 ⟨Nat.zero_le _, by show ee_z (xs 1) ≤ 2147483647; omega⟩))
  · by_cases h2 : ee_z (xs 1) < 2147483648 + 201
    · exact ee_w8 (by omega) h2 p l e s m below meth c D dA xa ad0 b (ee_hCB hCC rfl (ee_fit1 ⟨Nat.le_refl _, Nat.le_refl _⟩))
    · exact ee_WBf (ee_fs_mem ee_fl8 _ (List.mem_cons_of_mem _ List.mem_cons_self)) p l e s m below meth c D dA xa ad0 b (ee_hCB hCC rfl (ee_fit1 ⟨by show 2147483849 ≤ ee_z (xs 1); omega, by show ee_z (xs 1) ≤ 4294967295; omega⟩))
theorem ee_pk (hCC : ∀ sc : Option (List (Nat × Nat)), (∀ l, sc = some l → l.length = 6 ∧ ∀ i q, l[i]? = some q → ee_in (xs i) q) → ee_C p s m #[Value.ref b] meth c D dA xa [sc, some ee_round] s.heap.size 0) {j : Nat} (h1 : 2147483648 ≤ j) (h2 : j ≤ 2147483679) : ee_WS p l e room_1 s m #[Value.ref b] below meth c (lw_Z below #[Value.ref b] s) D dA xa s.heap.size ad0 0 (ee_a33 j) := by
  obtain ⟨i, hi, hj⟩ : ∃ i, i < 32 ∧ j = 2147483648 + i := ⟨j - 2147483648, by omega, by omega⟩
  subst hj
  match i, hi with
  | 0, _ => exact ee_pick rfl ee_cw0 ee_w0 hCC
  | 1, _ => exact ee_pick rfl ee_cw1 ee_w1 hCC
  | 2, _ => exact ee_pick rfl ee_cw2 ee_w2 hCC
  | 3, _ => exact ee_pick rfl ee_cw3 ee_w3 hCC
  | 4, _ => exact ee_pick rfl ee_cw4 ee_w4 hCC
  | 5, _ => exact ee_pick rfl ee_cw5 ee_w5 hCC
  | 6, _ => exact ee_pick rfl ee_cw6 ee_w6 hCC
  | 7, _ => exact ee_pick rfl ee_cw7 ee_w7 hCC
  | 8, _ => exact ee_pp8 hCC
  | 9, _ => exact ee_pick rfl ee_cw9 ee_w9 hCC
  | 10, _ => exact ee_pick rfl ee_cw10 ee_w10 hCC
  | 11, _ => exact ee_pick rfl ee_cw11 ee_w11 hCC
  | 12, _ => exact ee_pick rfl ee_cw12 ee_w12 hCC
  | 13, _ => exact ee_pick rfl ee_cw13 ee_w13 hCC
  | 14, _ => exact ee_pick rfl ee_cw14 ee_w14 hCC
  | 15, _ => exact ee_pick rfl ee_cw15 ee_w15 hCC
  | 16, _ => exact ee_pick rfl ee_cw16 ee_w16 hCC
  | 17, _ => exact ee_pick rfl ee_cw17 ee_w17 hCC
  | 18, _ => exact ee_pick rfl ee_cw18 ee_w18 hCC
  | 19, _ => exact ee_pick rfl ee_cw19 ee_w19 hCC
  | 20, _ => exact ee_pick rfl ee_cw20 ee_w20 hCC
  | 21, _ => exact ee_pick rfl ee_cw21 ee_w21 hCC
  | 22, _ => exact ee_pick rfl ee_cw22 ee_w22 hCC
  | 23, _ => exact ee_pick rfl ee_cw23 ee_w23 hCC
  | 24, _ => exact ee_pick rfl ee_cw24 ee_w24 hCC
  | 25, _ => exact ee_pick rfl ee_cw25 ee_w25 hCC
  | 26, _ => exact ee_pick rfl ee_cw26 ee_w26 hCC
  | 27, _ => exact ee_pick rfl ee_cw27 ee_w27 hCC
  | 28, _ => exact ee_pick rfl ee_cw28 ee_w28 hCC
  | 29, _ => exact ee_pick rfl ee_cw29 ee_w29 hCC
  | 30, _ => exact ee_pick rfl ee_cw30 ee_w30 hCC
  | 31, _ => exact ee_pick rfl ee_cw31 ee_w31 hCC
  | i + 32, hi => exact absurd hi (by omega)
end EWH
theorem whole_start {p : Program} {e : Env} {s : State} {m : MethodId} {below : List Frame} {meth : Method} {c : Code} (l : Launch) {b L : Nat} {xs : Nat → Int32} (hL : L ≤ 6) (C0 : lw_At p s m meth c b L xs) : W p l e room_1 s m #[Value.ref b] below meth c s.heap [] 0 0 (lw_Z below #[Value.ref b] s) (entryFrame m ([Value.ref b] : List Value).toArray 4) := by
  obtain ⟨D, dA, xa, hxa, hCC⟩ := ee_G_law C0
  have hC0 := hCC none (fun l h => by cases h)
  have k18 : ee_WS p l e room_1 s m #[Value.ref b] below meth c (lw_Z below #[Value.ref b] s) D dA xa s.heap.size [] 0 ee_a18 := by
    rcases (show L = 0 ∨ L = 1 ∨ L = 2 ∨ L = 3 ∨ L = 4 ∨ L = 5 ∨ L = 6 by omega) with h | h | h | h | h | h | h <;> subst h
    · exact ee_fin_snd (hCC (some (ee_tps 0)) (ee_tps_ok 0)) ee_short0
    · exact ee_fin_snd (hCC (some (ee_tps 1)) (ee_tps_ok 1)) ee_short1
    · exact ee_fin_snd (hCC (some (ee_tps 2)) (ee_tps_ok 2)) ee_short2
    · exact ee_fin_snd (hCC (some (ee_tps 3)) (ee_tps_ok 3)) ee_short3
    · exact ee_fin_snd (hCC (some (ee_tps 4)) (ee_tps_ok 4)) ee_short4
    · exact ee_fin_snd (hCC (some (ee_tps 5)) (ee_tps_ok 5)) ee_short5
    · have k32 : ee_WS p l e room_1 s m #[Value.ref b] below meth c (lw_Z below #[Value.ref b] s) D dA xa s.heap.size [] 0 ee_a32 := ee_splt (fun j h1 h2 => ee_pk hCC h1 h2)
      exact (ee_go_snd ee_room (ee_exe_snd ee_ck 11) (hCC (some (ee_tps 6)) (ee_tps_ok 6)) ⟨Nat.le_of_ble_eq_true rfl, Nat.le_of_ble_eq_true rfl⟩ k32 _ _ ee_run3).2
  have k08 : ee_WS p l e room_1 s m #[Value.ref b] below meth c (lw_Z below #[Value.ref b] s) D dA xa s.heap.size [] 0 ee_a08 := (ee_go_snd ee_room (ee_exe_snd ee_ck 11) hC0 ⟨Nat.le_of_ble_eq_true rfl, Nat.le_of_ble_eq_true rfl⟩ k18 _ _ ee_run2).2
  have k00 : ee_WS p l e room_1 s m #[Value.ref b] below meth c (lw_Z below #[Value.ref b] s) D dA xa s.heap.size [] 0 ee_a00 := (ee_go_snd ee_room (ee_exe_snd ee_ck 11) hC0 ⟨Nat.le_of_ble_eq_true rfl, Nat.le_of_ble_eq_true rfl⟩ k08 _ _ ee_run1).2
  have hA : ee_a2 (ee_ok [] xa) [Value.ref b] [.inr (.inr 1)] := ⟨⟨b, hxa, rfl⟩, trivial⟩
  have hsl := ee_sl_len hA
  have hl := lv_entry [Value.ref b] (n := 4) (by rw [hsl]; show 1 ≤ 4; omega)
  rw [lg_entry_eq]
  refine k00 [] [] s.heap [] _ [] (List.prefix_refl _) ⟨rfl, rfl, fun k nd h => (by cases h)⟩ (fun k q h => (by cases h)) ⟨fun i j p q h => (by cases h), fun k q h => (by cases h)⟩ va_S.rf ⟨rfl, _, hl, fun i a ha => ?_⟩ trivial
  match i, ha with
  | 0, ha =>
    have ha : some (.inr (.inr 1)) = some a := ha
    cases ha
    obtain ⟨v, h1, h2⟩ := ee_args_in hA 0 0 _ rfl
    exact Or.inr ⟨v, h1, h2⟩
  | 1, ha => exact Or.inl (Option.some.inj ha).symm
  | 2, ha => exact Or.inl (Option.some.inj ha).symm
  | 3, ha => exact Or.inl (Option.some.inj ha).symm
  | i + 4, ha => cases ha
