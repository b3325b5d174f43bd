/-! ===== fair and worst, answered by what was run ===== -/
def ee_fxL : List Nat := ee_fxl0 ++ (ee_fxl1 ++ (ee_fxl2 ++ []))
def ee_fmL : List Nat := ee_fml0 ++ (ee_fml1 ++ (ee_fml2 ++ (ee_fml3 ++ (ee_fml4 ++ []))))
theorem ee_fLe : ee_fxL = ee_fmL := by decide +kernel
theorem ee_fLn : ee_fxL.length = 201 := by decide +kernel
theorem ee_fxn0 : 2147483648 + 0 + ee_fxl0.length = 2147483648 + 67 := by rw [show ee_fxl0.length = 67 from by decide +kernel]
theorem ee_fxn1 : 2147483648 + 67 + ee_fxl1.length = 2147483648 + 134 := by rw [show ee_fxl1.length = 67 from by decide +kernel]
theorem ee_fxn2 : 2147483648 + 134 + ee_fxl2.length = 2147483648 + 201 := by rw [show ee_fxl2.length = 67 from by decide +kernel]
theorem ee_fmn0 : 2147483648 + 0 + ee_fml0.length = 2147483648 + 41 := by rw [show ee_fml0.length = 41 from by decide +kernel]
theorem ee_fmn1 : 2147483648 + 41 + ee_fml1.length = 2147483648 + 81 := by rw [show ee_fml1.length = 40 from by decide +kernel]
theorem ee_fmn2 : 2147483648 + 81 + ee_fml2.length = 2147483648 + 121 := by rw [show ee_fml2.length = 40 from by decide +kernel]
theorem ee_fmn3 : 2147483648 + 121 + ee_fml3.length = 2147483648 + 161 := by rw [show ee_fml3.length = 40 from by decide +kernel]
theorem ee_fmn4 : 2147483648 + 161 + ee_fml4.length = 2147483648 + 201 := by rw [show ee_fml4.length = 40 from by decide +kernel]
section EFE
variable {p : Program} {l : Launch} {e : Env} {s : State} {m : MethodId} {args : Array Value} {below : List Frame} {meth : Method} {c : Code} {D : va_G} {dA : Nat → ClassId} {xa : List Nat} {B : Nat} {ad0 : List Nat}
theorem ee_fc_at {R : Room} {xt : ee_X} {y : Nat} {call : Nat → List ee_V → ee_H → Option ee_R} {d ex stop b1 b2 b3 b4 b5 k k' : Nat} {top : ee_H} {S S' : ee_S} {Fs Gs : List Nat} (hy1 : 1 ≤ y) (hR : d ≤ R.frames ∧ 40 * d ≤ R.locals) (hcall : ee_CS l D dA xa xt B d call) (hC : ee_C p s m args meth c D dA xa xt B y)
    (h17 : ee_pg y 17 = some (1, 3, b1, 1)) (h18 : ee_pg y 18 = some (1, 1, b2, 1)) (h19 : ee_pg y 19 = some (44, 3, ex, 3)) (hst : ee_pg y stop = some (51, b3, b4, b5)) (hst2 : stop < 1100) (hrk : ee_rk y = 1) (h : ee_fc call xt d y ex stop top Fs k S = some S') (hk : k + Fs.length = k')
    (hG : ee_FP p l e R s m args below meth c D dA xa B ad0 y top S' k' Gs) : ee_FP p l e R s m args below meth c D dA xa B ad0 y top S k (Fs ++ Gs) := by
  subst hk
  exact ee_fc_snd hy1 hR hcall hC h17 h18 h19 hst hst2 hrk Fs k S h hG
theorem ee_fxpg : ee_pg 19 17 = some (1, 3, 1, 1) ∧ ee_pg 19 18 = some (1, 1, 1, 1) ∧ ee_pg 19 19 = some (44, 3, 43, 3) ∧ ee_pg 19 51 = some (51, 0, 0, 1) ∧ ee_rk 19 = 1 ∧ ee_na 19 = 2 := by decide +kernel
theorem ee_fxF (hC : ee_C p s m args meth c D dA xa ee_X0 B 19) : ee_FP p l e (ee_rm 10 0 0) s m args below meth c D dA xa B ad0 19 ee_ht ee_fxs0 2147483648 ee_fxL := by
  obtain ⟨g1, g2, g3, g4, g5, -⟩ := ee_fxpg
  have hR : 10 ≤ (ee_rm 10 0 0).frames ∧ 40 * 10 ≤ (ee_rm 10 0 0).locals := ⟨Nat.le_refl _, Nat.le_refl _⟩
  have hy : 1 ≤ 19 := by decide
  have f : ∀ {S S' : ee_S} {Fs Gs : List Nat} {k k' : Nat}, ee_fc (ee_exe ee_X0 10) ee_X0 10 19 43 51 ee_ht Fs k S = some S' → k + Fs.length = k' → ee_FP p l e (ee_rm 10 0 0) s m args below meth c D dA xa B ad0 19 ee_ht S' k' Gs → ee_FP p l e (ee_rm 10 0 0) s m args below meth c D dA xa B ad0 19 ee_ht S k (Fs ++ Gs) := fun h hk hG => ee_fc_at hy hR (ee_exe_snd ee_ck 10) hC g1 g2 g3 g4 (by decide) g5 h hk hG
  have q3 : ee_FP p l e (ee_rm 10 0 0) s m args below meth c D dA xa B ad0 19 ee_ht ee_fxs3 (2147483648 + 201) [] := ee_FP_nil
  have q2 := f (k := 2147483648 + 134) ee_fxr2 ee_fxn2 q3
  have q1 := f (k := 2147483648 + 67) ee_fxr1 ee_fxn1 q2
  have q0 := f (k := 2147483648 + 0) ee_fxr0 ee_fxn0 q1
  exact q0
theorem ee_fxC {n F : Nat} {call : Nat → List ee_V → ee_H → Option ee_R} (h1 : 2147483648 ≤ n) (h2 : n < 2147483648 + 201) (hF : ee_nth ee_fxL (n - 2147483648) = some F) (hc : ee_CS l D dA xa ee_X0 B 11 call) : ee_CS l D dA xa ee_X0 B 11 (ee_or 19 [.inr (.inl 1), .inl (n, n)] ee_h0 (some (.inl (F, F)), ee_ht, 0, 0) call) := by
  refine ee_or_snd (d := 10) ⟨by decide, by decide⟩ (show 2 = ee_na 19 from ee_fxpg.2.2.2.2.2.symm) ?_ hc
  intro ad p e s m args below meth c hC
  have hw := ee_fxF (l := l) (e := e) (below := below) (ad0 := ad) hC n F h1 hF
  exact (ee_go_snd ⟨Nat.le_refl _, Nat.le_refl _⟩ (ee_exe_snd ee_ck 10) hC ⟨Nat.zero_le _, Nat.zero_le _⟩ hw _ _ (ee_fe_snd ee_fxb h1 h2)).2
theorem ee_fmpg : ee_pg 20 17 = some (1, 3, 1, 1) ∧ ee_pg 20 18 = some (1, 1, 1, 1) ∧ ee_pg 20 19 = some (44, 3, 68, 3) ∧ ee_pg 20 69 = some (51, 0, 0, 1) ∧ ee_rk 20 = 1 ∧ ee_na 20 = 2 := by decide +kernel
theorem ee_fmF (hC : ee_C p s m args meth c D dA xa ee_X0 B 20) : ee_FP p l e (ee_rm 10 0 0) s m args below meth c D dA xa B ad0 20 ee_hu ee_fms0 2147483648 ee_fmL := by
  obtain ⟨g1, g2, g3, g4, g5, -⟩ := ee_fmpg
  have hR : 10 ≤ (ee_rm 10 0 0).frames ∧ 40 * 10 ≤ (ee_rm 10 0 0).locals := ⟨Nat.le_refl _, Nat.le_refl _⟩
  have hy : 1 ≤ 20 := by decide
  have f : ∀ {S S' : ee_S} {Fs Gs : List Nat} {k k' : Nat}, ee_fc (ee_exe ee_X0 10) ee_X0 10 20 68 69 ee_hu Fs k S = some S' → k + Fs.length = k' → ee_FP p l e (ee_rm 10 0 0) s m args below meth c D dA xa B ad0 20 ee_hu S' k' Gs → ee_FP p l e (ee_rm 10 0 0) s m args below meth c D dA xa B ad0 20 ee_hu S k (Fs ++ Gs) := fun h hk hG => ee_fc_at hy hR (ee_exe_snd ee_ck 10) hC g1 g2 g3 g4 (by decide) g5 h hk hG
  have q5 : ee_FP p l e (ee_rm 10 0 0) s m args below meth c D dA xa B ad0 20 ee_hu ee_fms5 (2147483648 + 201) [] := ee_FP_nil
  have q4 := f (k := 2147483648 + 161) ee_fmr4 ee_fmn4 q5
  have q3 := f (k := 2147483648 + 121) ee_fmr3 ee_fmn3 q4
  have q2 := f (k := 2147483648 + 81) ee_fmr2 ee_fmn2 q3
  have q1 := f (k := 2147483648 + 41) ee_fmr1 ee_fmn1 q2
  have q0 := f (k := 2147483648 + 0) ee_fmr0 ee_fmn0 q1
  exact q0
theorem ee_fmC {n F : Nat} {call : Nat → List ee_V → ee_H → Option ee_R} (h1 : 2147483648 ≤ n) (h2 : n < 2147483648 + 201) (hF : ee_nth ee_fmL (n - 2147483648) = some F) (hc : ee_CS l D dA xa ee_X0 B 11 call) : ee_CS l D dA xa ee_X0 B 11 (ee_or 20 [.inr (.inl 165), .inl (n, n)] ee_ht (some (.inl (F, F)), ee_hu, 0, 0) call) := by
  refine ee_or_snd (d := 10) ⟨by decide, by decide⟩ (show 2 = ee_na 20 from ee_fmpg.2.2.2.2.2.symm) ?_ hc
  intro ad p e s m args below meth c hC
  have hw := ee_fmF (l := l) (e := e) (below := below) (ad0 := ad) hC n F h1 hF
  exact (ee_go_snd ⟨Nat.le_refl _, Nat.le_refl _⟩ (ee_exe_snd ee_ck 10) hC ⟨Nat.zero_le _, Nat.zero_le _⟩ hw _ _ (ee_fe_snd ee_fmb h1 h2)).2
end EFE
def ee_fkk (n F : Nat) : Nat → List ee_V → ee_H → Option ee_R := ee_or 19 [.inr (.inl 1), .inl (n, n)] ee_h0 (some (.inl (F, F)), ee_ht, 0, 0) (ee_or 20 [.inr (.inl 165), .inl (n, n)] ee_ht (some (.inl (F, F)), ee_hu, 0, 0) (ee_exe ee_X0 11))
def ee_b8 (n : Nat) : List (Nat × Nat) := [(n, n), (nat_lit 0, nat_lit 4294967295), (nat_lit 0, nat_lit 4294967295), (nat_lit 0, nat_lit 4294967295), (nat_lit 0, nat_lit 4294967295)]
def ee_fa : List Nat → Nat → Bool
  | [], _ => true
  | F :: Fs, n => ee_fic (ee_fkk n F) (ee_XB (ee_b8 n)) (ee_a33 (nat_lit 2147483656)) && ee_f (Nat.succ n) (fun n' => ee_fa Fs n')
theorem ee_fa_at : ∀ {Fs : List Nat} {k n F : Nat}, ee_fa Fs k = true → k ≤ n → ee_nth Fs (n - k) = some F → ee_fic (ee_fkk n F) (ee_XB (ee_b8 n)) (ee_a33 (nat_lit 2147483656)) = true
  | [], _, _, _, _, _, h => by cases h
  | G :: Fs, k, n, F, h, h1, h2 => by
    unfold ee_fa at h
    rw [ee_f_eq, Bool.and_eq_true] at h
    by_cases e : k = n
    · subst e
      rw [Nat.sub_self] at h2
      have h2 : some G = some F := h2
      cases h2
      exact h.1
    · have e9 : n - k = (n - Nat.succ k) + 1 := by
        show n - k = (n - (k + 1)) + 1
        omega
      rw [e9] at h2
      exact ee_fa_at h.2 (by show k + 1 ≤ n; omega) h2
theorem ee_fa_app : ∀ {Fs Gs : List Nat} {k k' : Nat}, k + Fs.length = k' → ee_fa Fs k = true → ee_fa Gs k' = true → ee_fa (Fs ++ Gs) k = true
  | [], Gs, k, k', hk, _, h => by
    have : k = k' := hk
    subst this
    exact h
  | F :: Fs, Gs, k, k', hk, h, hg => by
    unfold ee_fa at h
    rw [ee_f_eq, Bool.and_eq_true] at h
    show (ee_fic (ee_fkk k F) (ee_XB (ee_b8 k)) (ee_a33 (nat_lit 2147483656)) && ee_f (Nat.succ k) (fun n' => ee_fa (Fs ++ Gs) n')) = true
    rw [ee_f_eq, Bool.and_eq_true]
    refine ⟨h.1, ee_fa_app (k' := k') ?_ h.2 hg⟩
    simp only [List.length_cons] at hk
    show k + 1 + Fs.length = k'
    omega
set_option maxRecDepth 100000 in
theorem ee_fal0 : ee_fa ee_fxl0 (nat_lit 2147483648) = true := by decide +kernel
set_option maxRecDepth 100000 in
theorem ee_fal1 : ee_fa ee_fxl1 (nat_lit 2147483715) = true := by decide +kernel
set_option maxRecDepth 100000 in
theorem ee_fal2 : ee_fa ee_fxl2 (nat_lit 2147483782) = true := by decide +kernel
theorem ee_faL : ee_fa ee_fxL 2147483648 = true := ee_fa_app (k := 2147483648 + 0) ee_fxn0 ee_fal0 (ee_fa_app (k := 2147483648 + 67) ee_fxn1 ee_fal1 (ee_fa_app (k := 2147483648 + 134) ee_fxn2 ee_fal2 rfl))
