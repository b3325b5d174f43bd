/-! ===== a loop whose bound stands in local 1 ===== -/
def ee_fc (call : Nat → List ee_V → ee_H → Option ee_R) (xt : List (Option (List (Nat × Nat)))) (d y ex stop : Nat) (top : ee_H) : List Nat → Nat → ee_S → Option ee_S
  | [], _, S => some S
  | F :: Fs, i, (pc, a :: b :: c2 :: .inl q3 :: t, [], h, c, s) => bif Nat.beq pc (nat_lit 17) && (Nat.beq q3.1 i && (Nat.beq q3.2 i && (Nat.beq c (nat_lit 0) && Nat.beq s (nat_lit 0)))) then
      (match ee_go call xt d y stop (nat_lit 100) (ex, a :: .inr (.inr (nat_lit 0)) :: c2 :: .inl q3 :: t, [], h, c, s) with
        | some (pc1, lo1, [.inl q], h1, c1, s1) => bif Nat.beq pc1 stop && (Nat.beq q.1 F && (Nat.beq q.2 F && (ee_hle h1 top && (Nat.beq c1 (nat_lit 0) && Nat.beq s1 (nat_lit 0))))) then
            (match ee_gf call xt d y (nat_lit 17) (nat_lit 5000) (nat_lit 22, a :: b :: c2 :: .inl q3 :: t, [], h, c, s) with
              | some (pc2, lo2, st2, h2, c2, s2) => bif Nat.beq c2 (nat_lit 0) && Nat.beq s2 (nat_lit 0) then ee_f (Nat.succ i) (fun i' => ee_fc call xt d y ex stop top Fs i' (pc2, lo2, st2, h2, c2, s2)) else none
              | none => none) else none
        | _ => none) else none
  | _ :: _, _, _ => none
section EFC
variable {call : Nat → List ee_V → ee_H → Option ee_R} {xt : ee_X} {d y pc f : Nat} {r : List ee_V × List ee_V × ee_H × Nat × Nat} {S : ee_S} {i : ee_I}
theorem ee_gn1 (hpc : Nat.blt pc (nat_lit 1100) = true) (hi : ee_pg y pc = some i) (hs : ee_step call xt d i (pc, r) = some S) : ee_gn call xt d y (f + 1) (pc, r) = ee_gn call xt d y f S := by
  show ee_f pc _ = _
  rw [ee_f_eq, ee_ct hpc, hi]
  show (match ee_step call xt d i (pc, r) with | none => none | some S => ee_gn call xt d y f S) = _
  rw [hs]
theorem ee_g3 {ex b1 b2 n k pc' : Nat} {a c2 : ee_V} {t : List ee_V} {z : ee_H × Nat × Nat} (h17 : ee_pg y 17 = some (1, 3, b1, 1)) (h18 : ee_pg y 18 = some (1, 1, b2, 1)) (h19 : ee_pg y 19 = some (44, 3, ex, 3)) (hp : (k < n ∧ pc' = 22) ∨ (k = n ∧ pc' = ex)) :
    ee_gn call xt d y 3 (17, a :: .inl (n, n) :: c2 :: .inl (k, k) :: t, [], z) = some (pc', a :: .inl (n, n) :: c2 :: .inl (k, k) :: t, [], z) := by
  have e1 : ee_step call xt d (1, 3, b1, 1) (17, a :: .inl (n, n) :: c2 :: .inl (k, k) :: t, [], z) = some (18, a :: .inl (n, n) :: c2 :: .inl (k, k) :: t, [.inl (k, k)], z) := by rw [ee_st1]; rfl
  have e2 : ee_step call xt d (1, 1, b2, 1) (18, a :: .inl (n, n) :: c2 :: .inl (k, k) :: t, [.inl (k, k)], z) = some (19, a :: .inl (n, n) :: c2 :: .inl (k, k) :: t, [.inl (n, n), .inl (k, k)], z) := by rw [ee_st1]; rfl
  have e3 : ee_step call xt d (44, 3, ex, 3) (19, a :: .inl (n, n) :: c2 :: .inl (k, k) :: t, [.inl (n, n), .inl (k, k)], z) = some (pc', a :: .inl (n, n) :: c2 :: .inl (k, k) :: t, [], z) := by
    rw [ee_st44]
    have hcm : ee_cmp 3 (k, k) (n, n) = ee_not (ee_lt (k, k) (n, n)) := rfl
    show (match ee_cmp 3 (k, k) (n, n) with
      | some true => some (ex, a :: .inl (n, n) :: c2 :: .inl (k, k) :: t, [], z)
      | some false => some (Nat.add 19 3, a :: .inl (n, n) :: c2 :: .inl (k, k) :: t, [], z)
      | none => none) = _
    rw [hcm]
    unfold ee_lt
    dsimp only
    rcases hp with ⟨h1, h2⟩ | ⟨h1, h2⟩
    · have hb : Nat.blt k n = true := Nat.ble_eq_true_of_le h1
      rw [ee_ct hb, h2]
      rfl
    · subst h1
      have hb : Nat.blt k k = false := by
        cases hb : Nat.blt k k with
        | false => rfl
        | true => exact absurd (show k < k from Nat.le_of_ble_eq_true hb) (Nat.lt_irrefl k)
      have hb2 : Nat.ble k k = true := Nat.ble_eq_true_of_le (Nat.le_refl k)
      rw [ee_cf hb, ee_ct hb2, h2]
      rfl
  rw [ee_gn1 rfl h17 e1, ee_gn1 rfl h18 e2, ee_gn1 rfl h19 e3]
  rfl
end EFC
section EFD
variable {p : Program} {l : Launch} {e : Env} {R : Room} {s : State} {m : MethodId} {args : Array Value} {below : List Frame} {meth : Method} {c : Code} {D : va_G} {dA : Nat → ClassId} {xa : List Nat} {xt : ee_X} {B : Nat} {ad0 : List Nat} {y : Nat}
theorem ee_lo_u {ad : List Nat} {ls : Array Slot} {n : Nat} {a b : ee_V} {t : List ee_V} (h : ee_lo ad xa ls n (a :: b :: t)) : ee_lo ad xa ls n (a :: .inr (.inr 0) :: t) := by
  obtain ⟨h1, lv, h2, h3⟩ := h
  refine ⟨h1, lv, h2, fun i x hx => ?_⟩
  match i, hx with
  | 0, hx => exact h3 0 x hx
  | 1, hx =>
    have hx : some (.inr (.inr 0)) = some x := hx
    cases hx
    exact Or.inl rfl
  | i + 2, hx => exact h3 (i + 2) x hx
theorem ee_WS_u {Q : State → Prop} {pc : Nat} {a b : ee_V} {t : List ee_V} {z : List ee_V × ee_H × Nat × Nat} (k : ee_WS p l e R s m args below meth c Q D dA xa B ad0 y (pc, a :: .inr (.inr 0) :: t, z)) : ee_WS p l e R s m args below meth c Q D dA xa B ad0 y (pc, a :: b :: t, z) := by
  intro ad ws H locs ls vs hp hwd hP hD hS hl hv
  exact k ad ws H locs ls vs hp hwd hP hD hS (ee_lo_u hl) hv
theorem ee_WS_h {Q : State → Prop} {pc : Nat} {lo st : List ee_V} {h h' : ee_H} {z : Nat × Nat} (hh : ee_hle h h' = true) (k : ee_WS p l e R s m args below meth c Q D dA xa B ad0 y (pc, lo, st, h', z)) : ee_WS p l e R s m args below meth c Q D dA xa B ad0 y (pc, lo, st, h, z) := by
  intro ad ws H locs ls vs hp hwd hP hD hS hl hv
  exact k ad ws H locs ls vs hp (ee_hle_wd hh hwd) hP hD hS hl hv
/-- what is known at the loop's head: every bound from k on that the list answers -/
def ee_FP (p : Program) (l : Launch) (e : Env) (R : Room) (s : State) (m : MethodId) (args : Array Value) (below : List Frame) (meth : Method) (c : Code) (D : va_G) (dA : Nat → ClassId) (xa : List Nat) (B : Nat) (ad0 : List Nat) (y : Nat) (top : ee_H) (S : ee_S) (k : Nat) (Fs : List Nat) : Prop :=
  ∀ n F, k ≤ n → ee_nth Fs (n - k) = some F → ee_WS p l e R s m args below meth c (MQ below (ee_Post D dA xa B ad0 (some (.inl (F, F))) top) args s 0 0 (fun q => B ≤ q)) D dA xa B ad0 y (ee_sl1 (.inl (n, n)) S)
theorem ee_fc_snd {call : Nat → List ee_V → ee_H → Option ee_R} {d ex stop b1 b2 b3 b4 b5 : Nat} {top : ee_H} {S' : ee_S} {Gs : List Nat} (hy1 : 1 ≤ y) (hR : d ≤ R.frames ∧ 40 * d ≤ R.locals) (hcall : ee_CS l D dA xa xt B d call) (hC : ee_C p s m args meth c D dA xa xt B y)
    (h17 : ee_pg y 17 = some (1, 3, b1, 1)) (h18 : ee_pg y 18 = some (1, 1, b2, 1)) (h19 : ee_pg y 19 = some (44, 3, ex, 3)) (hst : ee_pg y stop = some (51, b3, b4, b5)) (hst2 : stop < 1100) (hrk : ee_rk y = 1) :
    ∀ (Fs : List Nat) (k : Nat) (S : ee_S), ee_fc call xt d y ex stop top Fs k S = some S' → ee_FP p l e R s m args below meth c D dA xa B ad0 y top S' (k + Fs.length) Gs → ee_FP p l e R s m args below meth c D dA xa B ad0 y top S k (Fs ++ Gs) := by
  intro Fs
  induction Fs with
  | nil => intro k S h hG; cases h; exact hG
  | cons F Fs ih =>
    intro k S h hG
    obtain ⟨pc, lo, st, hh, cc, ss⟩ := S
    have key : ∃ a b c2 q3 t, lo = a :: b :: c2 :: .inl q3 :: t ∧ st = [] := by
      match lo, st, h with
      | a :: b :: c2 :: .inl q3 :: t, [], _ => exact ⟨a, b, c2, q3, t, rfl, rfl⟩
      | _ :: _ :: _ :: .inl _ :: _, _ :: _, h => cases h
      | _ :: _ :: _ :: .inr _ :: _, _, h => cases h
      | [_, _, _], _, h => cases h
      | [_, _], _, h => cases h
      | [_], _, h => cases h
      | [], _, h => cases h
    obtain ⟨a, b, c2, q3, t, rfl, rfl⟩ := key
    rw [ee_fc] at h
    · skip
      cases hb : (Nat.beq pc (nat_lit 17) && (Nat.beq q3.1 k && (Nat.beq q3.2 k && (Nat.beq cc (nat_lit 0) && Nat.beq ss (nat_lit 0))))) with
      | false => rw [ee_cf hb] at h; cases h
      | true =>
        rw [ee_ct hb] at h
        rw [Bool.and_eq_true, Bool.and_eq_true, Bool.and_eq_true, Bool.and_eq_true] at hb
        obtain ⟨g1, g2, g3, g4, g5⟩ := hb
        have g1 := Nat.eq_of_beq_eq_true g1
        have g2 := Nat.eq_of_beq_eq_true g2
        have g3 := Nat.eq_of_beq_eq_true g3
        have g4 := Nat.eq_of_beq_eq_true g4
        have g5 := Nat.eq_of_beq_eq_true g5
        obtain ⟨q31, q32⟩ := q3
        dsimp only at g2 g3
        subst g1; subst g4; subst g5; subst g2; subst g3
        split at h
        · rename_i pc1 lo1 q h1 c1 s1 hgo
          cases hb : (Nat.beq pc1 stop && (Nat.beq q.1 F && (Nat.beq q.2 F && (ee_hle h1 top && (Nat.beq c1 (nat_lit 0) && Nat.beq s1 (nat_lit 0)))))) with
          | false => rw [ee_cf hb] at h; cases h
          | true =>
            rw [ee_ct hb] at h
            rw [Bool.and_eq_true, Bool.and_eq_true, Bool.and_eq_true, Bool.and_eq_true, Bool.and_eq_true] at hb
            obtain ⟨w1, w2, w3, w4, w5, w6⟩ := hb
            have w1 := Nat.eq_of_beq_eq_true w1
            have w2 := Nat.eq_of_beq_eq_true w2
            have w3 := Nat.eq_of_beq_eq_true w3
            have w5 := Nat.eq_of_beq_eq_true w5
            have w6 := Nat.eq_of_beq_eq_true w6
            obtain ⟨q1, q2⟩ := q
            dsimp only at w2 w3
            subst w1; subst w5; subst w6; subst w2; subst w3
            split at h
            · rename_i pc2 lo2 st2 h2 cc2 ss2 hgf
              cases hb : (Nat.beq cc2 (nat_lit 0) && Nat.beq ss2 (nat_lit 0)) with
              | false => rw [ee_cf hb] at h; cases h
              | true =>
                rw [ee_ct hb, ee_f_eq] at h
                rw [Bool.and_eq_true] at hb
                have u1 := Nat.eq_of_beq_eq_true hb.1
                have u2 := Nat.eq_of_beq_eq_true hb.2
                subst u1; subst u2
                have hrec := ih (Nat.succ q32) _ h (by
                  have e9 : Nat.succ q32 + Fs.length = q32 + (q2 :: Fs).length := by
                    simp only [List.length_cons]; omega
                  rw [e9]; exact hG)
                intro n F0 hle hn
                by_cases hlt : q32 < n
                · have hgo2 := ee_gf_go (v := .inl (n, n)) _ _ hgf
                  have hn2 : ee_nth (Fs ++ Gs) (n - Nat.succ q32) = some F0 := by
                    have e9 : n - q32 = (n - Nat.succ q32) + 1 := by omega
                    rw [e9] at hn
                    exact hn
                  have hw := hrec n F0 hlt hn2
                  have hw2 := (ee_go_snd hR hcall hC ⟨Nat.zero_le _, Nat.zero_le _⟩ hw _ _ hgo2).2
                  exact (ee_gn_snd hR hcall hC ⟨Nat.zero_le _, Nat.zero_le _⟩ hw2 3 _ (ee_g3 h17 h18 h19 (Or.inl ⟨hlt, rfl⟩))).2
                · have e9 : n = q32 := by omega
                  subst e9
                  rw [Nat.sub_self] at hn
                  have hn : some q2 = some F0 := hn
                  cases hn
                  have hsc : ee_sc y pc1 (51, b3, b4, b5) = true := ee_sc_all hC.2.2.2.2.2.2.2.2.2.2 hst2 hst
                  have hret : ee_ret y 51 (pc1, lo1, [.inl (q2, q2)], top, 0, 0) = some (some (.inl (q2, q2)), top, 0, 0) := by
                    show (bif Nat.beq 51 (nat_lit 51) && (Nat.beq (ee_rk y) (nat_lit 1) || _) then _ else _) = _
                    rw [hrk]
                    rfl
                  have hw1 := (es_ret (R := R) (l := l) (e := e) (below := below) (ad0 := ad0) hy1 hC hsc ⟨Nat.le_refl _, by show 51 ≤ 53; omega⟩ hret).2.2
                  have hw2 := (ee_go_snd hR hcall hC ⟨Nat.zero_le _, Nat.zero_le _⟩ (ee_WS_h w4 hw1) _ _ hgo).2
                  have hw3 := ee_WS_u (b := .inl (n, n)) hw2
                  exact (ee_gn_snd hR hcall hC ⟨Nat.zero_le _, Nat.zero_le _⟩ hw3 3 _ (ee_g3 h17 h18 h19 (Or.inr ⟨rfl, rfl⟩))).2
            · cases h
        · cases h
theorem ee_FP_nil {top : ee_H} {S : ee_S} {k : Nat} : ee_FP p l e R s m args below meth c D dA xa B ad0 y top S k [] := by
  intro n F _ h
  cases h
end EFD
/-- the loop's beginning, for so many bounds from n on -/
def ee_fe (call : Nat → List ee_V → ee_H → Option ee_R) (xt : List (Option (List (Nat × Nat)))) (d y k : Nat) (h : ee_H) (S : ee_S) : Nat → Nat → Bool
  | 0, _ => true
  | j + 1, n => ee_bO (ee_go call xt d y (nat_lit 17) (nat_lit 100) (nat_lit 0, ee_pad [.inr (.inl k), .inl (n, n)] (ee_ml y), [], h, nat_lit 0, nat_lit 0)) (ee_sl1 (.inl (n, n)) S) && ee_f (Nat.succ n) (fun n' => ee_fe call xt d y k h S j n')
theorem ee_fe_snd {call : Nat → List ee_V → ee_H → Option ee_R} {xt : ee_X} {d y k : Nat} {h : ee_H} {S : ee_S} : ∀ {j n0 n : Nat}, ee_fe call xt d y k h S j n0 = true → n0 ≤ n → n < n0 + j → ee_go call xt d y (nat_lit 17) (nat_lit 100) (nat_lit 0, ee_pad [.inr (.inl k), .inl (n, n)] (ee_ml y), [], h, nat_lit 0, nat_lit 0) = some (ee_sl1 (.inl (n, n)) S)
  | 0, n0, n, _, h1, h2 => by omega
  | j + 1, n0, n, h, h1, h2 => by
    unfold ee_fe at h
    rw [ee_f_eq, Bool.and_eq_true] at h
    by_cases e : n0 = n
    · subst e
      exact ee_bO_eq h.1
    · exact ee_fe_snd h.2 (by show n0 + 1 ≤ n; omega) (by show n < n0 + 1 + j; omega)
