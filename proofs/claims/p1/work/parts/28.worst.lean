/-! ===== worst of three, answered by what was run ===== -/
def ee_wk : Nat → List ee_V → ee_H → Option ee_R := ee_or 166 ee_wfA ee_h0 (none, ee_wfh1, 0, 0) (ee_or 167 ee_wtA ee_wfh1 (none, ee_wth0, 0, 0) (ee_exe ee_X0 10))
theorem ee_wpg : ee_pg 166 179 = some (53, 0, 0, 1) ∧ ee_pg 167 157 = some (53, 0, 0, 1) ∧ ee_rk 166 = 0 ∧ ee_rk 167 = 0 ∧ ee_na 166 = 3 ∧ ee_na 167 = 2 := by decide +kernel
section EWK
variable {p : Program} {l : Launch} {e : Env} {R : Room} {s : State} {m : MethodId} {args : Array Value} {below : List Frame} {meth : Method} {c : Code} {D : va_G} {dA : Nat → ClassId} {xa : List Nat} {xt : ee_X} {B : Nat} {ad0 : List Nat} {y : Nat}
theorem ee_vret {pc a b n : Nat} {lo : List ee_V} {h : ee_H} (hy1 : 1 ≤ y) (hC : ee_C p s m args meth c D dA xa xt B y) (hpg : ee_pg y pc = some (53, a, b, n)) (hpc : pc < 1100) (hrk : ee_rk y = 0) : ee_WS p l e R s m args below meth c (MQ below (ee_Post D dA xa B ad0 none h) args s 0 0 (fun q => B ≤ q)) D dA xa B ad0 y (pc, lo, [], h, 0, 0) := by
  have hsc : ee_sc y pc (53, a, b, n) = true := ee_sc_all hC.2.2.2.2.2.2.2.2.2.2 hpc hpg
  have hret : ee_ret y 53 (pc, lo, [], h, 0, 0) = some (none, h, 0, 0) := by
    show (bif Nat.beq 53 (nat_lit 53) && Nat.beq (ee_rk y) (nat_lit 0) then _ else _) = _
    rw [hrk]
    rfl
  exact (es_ret (R := R) (l := l) (e := e) (below := below) (ad0 := ad0) hy1 hC hsc ⟨by show 51 ≤ 53; omega, Nat.le_refl _⟩ hret).2.2
theorem ee_wfC {call : Nat → List ee_V → ee_H → Option ee_R} (hc : ee_CS l D dA xa ee_X0 B 10 call) : ee_CS l D dA xa ee_X0 B 10 (ee_or 166 ee_wfA ee_h0 (none, ee_wfh1, 0, 0) call) := by
  refine ee_or_snd (d := 9) ⟨by decide, by decide⟩ (show 3 = ee_na 166 from ee_wpg.2.2.2.2.1.symm) ?_ hc
  intro ad p e s m args below meth c hC
  have hR : 9 ≤ (ee_rm 9 0 0).frames ∧ 40 * 9 ≤ (ee_rm 9 0 0).locals := ⟨Nat.le_refl _, Nat.le_refl _⟩
  have hw2 : ee_WS p l e (ee_rm 9 0 0) s m args below meth c (MQ below (ee_Post D dA xa B ad none ee_wfh1) args s 0 0 (fun q => B ≤ q)) D dA xa B ad 166 ee_wfs1 := ee_vret (by decide) hC ee_wpg.1 (by decide) ee_wpg.2.2.1
  have hw1 := (ee_gn_snd hR (ee_exe_snd ee_ck 9) hC ⟨Nat.zero_le _, Nat.zero_le _⟩ hw2 _ _ ee_wfr1).2
  exact (ee_gn_snd hR (ee_exe_snd ee_ck 9) hC ⟨Nat.zero_le _, Nat.zero_le _⟩ hw1 _ _ ee_wfr0).2
theorem ee_wtC {call : Nat → List ee_V → ee_H → Option ee_R} (hc : ee_CS l D dA xa ee_X0 B 10 call) : ee_CS l D dA xa ee_X0 B 10 (ee_or 167 ee_wtA ee_wfh1 (none, ee_wth0, 0, 0) call) := by
  refine ee_or_snd (d := 9) ⟨by decide, by decide⟩ (show 2 = ee_na 167 from ee_wpg.2.2.2.2.2.symm) ?_ hc
  intro ad p e s m args below meth c hC
  have hR : 9 ≤ (ee_rm 9 0 0).frames ∧ 40 * 9 ≤ (ee_rm 9 0 0).locals := ⟨Nat.le_refl _, Nat.le_refl _⟩
  have hw2 : ee_WS p l e (ee_rm 9 0 0) s m args below meth c (MQ below (ee_Post D dA xa B ad none ee_wth0) args s 0 0 (fun q => B ≤ q)) D dA xa B ad 167 ee_wts1 := ee_vret (by decide) hC ee_wpg.2.1 (by decide) ee_wpg.2.2.2.1
  have hw1 := (ee_gn_snd hR (ee_exe_snd ee_ck 9) hC ⟨Nat.zero_le _, Nat.zero_le _⟩ hw2 _ _ ee_wtr1).2
  exact (ee_gn_snd hR (ee_exe_snd ee_ck 9) hC ⟨Nat.zero_le _, Nat.zero_le _⟩ hw1 _ _ ee_wtr0).2
theorem ee_wkC : ee_CS l D dA xa ee_X0 B 11 (ee_lv ee_wk ee_X0 10) := ee_lv_snd (ee_wfC (ee_wtC (ee_exe_snd ee_ck 10)))
end EWK
set_option maxRecDepth 100000 in
theorem ee_fh22_3 : ee_fic (ee_lv ee_wk ee_X0 10) (ee_XB [(nat_lit 2147483651, nat_lit 2147483651), (nat_lit 2147483648, nat_lit 2147483648), (nat_lit 0, nat_lit 4294967295), (nat_lit 0, nat_lit 4294967295), (nat_lit 0, nat_lit 4294967295)]) (ee_a33 (nat_lit 2147483670)) = true := by decide +kernel
set_option maxRecDepth 100000 in
theorem ee_fh22_4 : ee_fic (ee_lv ee_wk ee_X0 10) (ee_XB [(nat_lit 2147483651, nat_lit 2147483651), (nat_lit 2147483649, nat_lit 2147483649), (nat_lit 0, nat_lit 4294967295), (nat_lit 0, nat_lit 4294967295), (nat_lit 0, nat_lit 4294967295)]) (ee_a33 (nat_lit 2147483670)) = true := by decide +kernel
set_option maxRecDepth 100000 in
theorem ee_fh22_5 : ee_fic (ee_lv ee_wk ee_X0 10) (ee_XB [(nat_lit 2147483651, nat_lit 2147483651), (nat_lit 2147483650, nat_lit 2147483650), (nat_lit 0, nat_lit 4294967295), (nat_lit 0, nat_lit 4294967295), (nat_lit 0, nat_lit 4294967295)]) (ee_a33 (nat_lit 2147483670)) = true := by decide +kernel
set_option maxRecDepth 100000 in
theorem ee_fh22_6 : ee_fic (ee_lv ee_wk ee_X0 10) (ee_XB [(nat_lit 2147483651, nat_lit 2147483651), (nat_lit 2147483651, nat_lit 2147483651), (nat_lit 0, nat_lit 4294967295), (nat_lit 0, nat_lit 4294967295), (nat_lit 0, nat_lit 4294967295)]) (ee_a33 (nat_lit 2147483670)) = true := by decide +kernel
