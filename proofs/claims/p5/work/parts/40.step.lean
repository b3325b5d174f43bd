/-! ===== one step of any instruction but calls and returns ===== -/
def ab_step (wk : Nat → Bool) (cC cS κ op a b n : Nat) (S : ab_S) : Option (List ab_S) :=
  bif Nat.beq op (nat_lit 1) then (ab_o1 a n S) else
  bif Nat.beq op (nat_lit 2) then (ab_o2 a n S) else
  bif Nat.beq op (nat_lit 25) then (ab_o25 b n S) else
  bif Nat.beq op (nat_lit 5) then (ab_g ((a : Int) - 2147483648) fun z => ab_push (.inl (nat_lit 0, 0, z)) n S) else
  bif Nat.beq op (nat_lit 44) then (ab_o44 a b n S) else
  bif Nat.beq op (nat_lit 45) then (ab_o45 a b n S) else
  bif Nat.beq op (nat_lit 28) then (ab_o28 (nat_lit 0) n S) else
  bif Nat.beq op (nat_lit 3) then (ab_o3 a n S) else
  bif Nat.ble (nat_lit 10) op && Nat.ble op (nat_lit 20) then (ab_o10 op n S) else
  bif Nat.beq op (nat_lit 9) then (ab_o9 a b n S) else
  bif Nat.beq op (nat_lit 48) then (ab_o48 b S) else
  bif Nat.beq op (nat_lit 26) then (ab_o26 wk b n S) else
  bif Nat.beq op (nat_lit 29) then (ab_o29 wk (nat_lit 0) n S) else
  bif Nat.beq op (nat_lit 34) then (ab_o34 n S) else
  bif Nat.beq op (nat_lit 4) then (ab_o4 a n S) else
  bif Nat.beq op (nat_lit 30) then (ab_o28 (nat_lit 3) n S) else
  bif Nat.beq op (nat_lit 32) then (ab_o28 (nat_lit 2) n S) else
  bif Nat.beq op (nat_lit 33) then (ab_o29 wk (nat_lit 2) n S) else
  bif Nat.beq op (nat_lit 31) then (ab_o29 wk (nat_lit 3) n S) else
  bif Nat.beq op (nat_lit 22) then (ab_o22 n S) else
  bif Nat.beq op (nat_lit 24) then (ab_o24 n S) else
  bif Nat.beq op (nat_lit 6) then (ab_g ((b : Int) - 2147483648) fun z => ab_push (.inl (nat_lit 0, 0, z)) n S) else
  bif Nat.beq op (nat_lit 54) then (ab_g ((b : Int) - 2147483648) fun z => ab_push (.inl (nat_lit 0, 0, z)) n S) else
  bif Nat.beq op (nat_lit 8) then (ab_push (.inr (.inl (nat_lit 0))) n S) else
  bif Nat.beq op (nat_lit 46) then (ab_o46 b n S) else
  bif Nat.beq op (nat_lit 47) then (ab_o47 b n S) else
  bif Nat.beq op (nat_lit 49) then (ab_o49 a S) else
  bif Nat.beq op (nat_lit 50) then (ab_o50 a S) else
  bif Nat.beq op (nat_lit 35) then (ab_o35 cC cS κ b n S) else
  bif Nat.beq op (nat_lit 36) then (bif Nat.beq a (nat_lit 0) || (Nat.beq a (nat_lit 1) || Nat.beq a (nat_lit 2)) then ab_o36 cC cS κ a n S else none) else
  bif Nat.beq op (nat_lit 37) then (ab_o37 cC cS κ b n S) else
  bif Nat.beq op (nat_lit 7) then (ab_push (.inr (.inr (Nat.succ (Nat.succ b)))) n S) else
  bif Nat.beq op (nat_lit 27) then (ab_push (.inr (.inr (nat_lit 3))) n S) else
  bif Nat.beq op (nat_lit 23) then (ab_o23 n S) else
  bif Nat.beq op (nat_lit 56) then (ab_o56 a n S) else
  bif Nat.beq op (nat_lit 57) then (ab_o57 a n S) else
  bif Nat.beq op (nat_lit 58) then (ab_push (.inr (.inr (nat_lit 1))) n S) else
  bif Nat.beq op (nat_lit 59) then (ab_push (.inr (.inr (nat_lit 1))) n S) else
  bif Nat.ble (nat_lit 60) op && Nat.ble op (nat_lit 65) then (ab_o60 n S) else
  bif Nat.ble (nat_lit 66) op && Nat.ble op (nat_lit 68) then (ab_o66 n S) else
  bif Nat.beq op (nat_lit 69) then (ab_o69 n S) else
  bif Nat.beq op (nat_lit 70) then (ab_o70 n S) else
  bif Nat.beq op (nat_lit 71) then (ab_o71 n S) else
  bif Nat.beq op (nat_lit 72) then (ab_o28 (nat_lit 1) n S) else
  bif Nat.beq op (nat_lit 73) then (ab_o29 wk (nat_lit 1) n S) else
  bif Nat.beq op (nat_lit 75) then (ab_o75 n S) else none
section DS
variable {cls : Nat → List ab_Cl} {p : Program} {l : Launch} {e : Env} {R : Room} {s : State} {m : MethodId} {args : Array Value} {below : List Frame} {meth : Method} {c : Code} {Q : State → Prop} {D : va_G} {dA : Nat → ClassId} {xa : List Nat} {xt : ee_X} {B : Nat} {rv0 : List Int} {sv0 : ab_B} {y : Nat}
theorem ab_step_snd {cC cS κ op a b n : Nat} {S : ab_S} {L : List ab_S} (hcap : cC + (6144 - sv0.2.2.2.2.2 / 1024) ≤ R.cells ∧ cS + (6291456 - sv0.2.2.2.2.2) ≤ R.slots) (hnc : ∀ κ, ab_nc κ = true → cls κ = []) (hcok : ab_cok cls) (hcok2 : ab_cok2 cls) (hC : ee_C p s m args meth c D dA xa xt B y) (hs : ee_sc y S.1 (op, a, b, n) = true) (h : ab_step sv0.2.2.1 cC cS κ op a b n S = some L) (k : ∀ S ∈ L, ab_WS cls p l e R s m args below meth c Q D dA xa B rv0 sv0 y S) : ab_WS cls p l e R s m args below meth c Q D dA xa B rv0 sv0 y S := by
  obtain ⟨pc, rr⟩ := S
  dsimp only at hs
  unfold ab_step at h
  cases c1 : Nat.beq op (nat_lit 1) with
  | true =>
    rw [ee_ct c1] at h
    have e9 : op = 1 := Nat.eq_of_beq_eq_true c1
    subst e9
    exact as_1 hC hs h k
  | false =>
  rw [ee_cf c1] at h
  cases c2 : Nat.beq op (nat_lit 2) with
  | true =>
    rw [ee_ct c2] at h
    have e9 : op = 2 := Nat.eq_of_beq_eq_true c2
    subst e9
    exact as_2 hC hs h k
  | false =>
  rw [ee_cf c2] at h
  cases c25 : Nat.beq op (nat_lit 25) with
  | true =>
    rw [ee_ct c25] at h
    have e9 : op = 25 := Nat.eq_of_beq_eq_true c25
    subst e9
    exact as_25 hC hs h k
  | false =>
  rw [ee_cf c25] at h
  cases c5 : Nat.beq op (nat_lit 5) with
  | true =>
    rw [ee_ct c5] at h
    have e9 : op = 5 := Nat.eq_of_beq_eq_true c5
    subst e9
    exact as_5 hC hs (by rw [ab_g_eq] at h; exact h) k
  | false =>
  rw [ee_cf c5] at h
  cases c44 : Nat.beq op (nat_lit 44) with
  | true =>
    rw [ee_ct c44] at h
    have e9 : op = 44 := Nat.eq_of_beq_eq_true c44
    subst e9
    exact as_44 hC hs h k
  | false =>
  rw [ee_cf c44] at h
  cases c45 : Nat.beq op (nat_lit 45) with
  | true =>
    rw [ee_ct c45] at h
    have e9 : op = 45 := Nat.eq_of_beq_eq_true c45
    subst e9
    exact as_45 hC hs h k
  | false =>
  rw [ee_cf c45] at h
  cases c28 : Nat.beq op (nat_lit 28) with
  | true =>
    rw [ee_ct c28] at h
    have e9 : op = 28 := Nat.eq_of_beq_eq_true c28
    subst e9
    exact as_28 (Or.inl ⟨rfl, rfl⟩) hC hs h k
  | false =>
  rw [ee_cf c28] at h
  cases c3 : Nat.beq op (nat_lit 3) with
  | true =>
    rw [ee_ct c3] at h
    have e9 : op = 3 := Nat.eq_of_beq_eq_true c3
    subst e9
    exact as_3 hC hs h k
  | false =>
  rw [ee_cf c3] at h
  cases c10 : (Nat.ble (nat_lit 10) op && Nat.ble op (nat_lit 20)) with
  | true =>
    rw [ee_ct c10] at h
    rw [Bool.and_eq_true] at c10
    have g1 : 10 ≤ op := Nat.le_of_ble_eq_true c10.1
    have g2 : op ≤ 20 := Nat.le_of_ble_eq_true c10.2
    exact as_10 g1 g2 hC hs h k
  | false =>
  rw [ee_cf c10] at h
  cases c9 : Nat.beq op (nat_lit 9) with
  | true =>
    rw [ee_ct c9] at h
    have e9 : op = 9 := Nat.eq_of_beq_eq_true c9
    subst e9
    exact as_9 hC hs h k
  | false =>
  rw [ee_cf c9] at h
  cases c48 : Nat.beq op (nat_lit 48) with
  | true =>
    rw [ee_ct c48] at h
    have e9 : op = 48 := Nat.eq_of_beq_eq_true c48
    subst e9
    exact as_48 hC hs h k
  | false =>
  rw [ee_cf c48] at h
  cases c26 : Nat.beq op (nat_lit 26) with
  | true =>
    rw [ee_ct c26] at h
    have e9 : op = 26 := Nat.eq_of_beq_eq_true c26
    subst e9
    exact as_26 hC hs h k
  | false =>
  rw [ee_cf c26] at h
  cases c29 : Nat.beq op (nat_lit 29) with
  | true =>
    rw [ee_ct c29] at h
    have e9 : op = 29 := Nat.eq_of_beq_eq_true c29
    subst e9
    exact as_29 (Or.inl ⟨rfl, rfl⟩) hcok hC hs h k
  | false =>
  rw [ee_cf c29] at h
  cases c34 : Nat.beq op (nat_lit 34) with
  | true =>
    rw [ee_ct c34] at h
    have e9 : op = 34 := Nat.eq_of_beq_eq_true c34
    subst e9
    exact as_34 hC hs h k
  | false =>
  rw [ee_cf c34] at h
  cases c4 : Nat.beq op (nat_lit 4) with
  | true =>
    rw [ee_ct c4] at h
    have e9 : op = 4 := Nat.eq_of_beq_eq_true c4
    subst e9
    exact as_4 hC hs h k
  | false =>
  rw [ee_cf c4] at h
  cases c30 : Nat.beq op (nat_lit 30) with
  | true =>
    rw [ee_ct c30] at h
    have e9 : op = 30 := Nat.eq_of_beq_eq_true c30
    subst e9
    exact as_28 (Or.inr (Or.inl ⟨rfl, rfl⟩)) hC hs h k
  | false =>
  rw [ee_cf c30] at h
  cases c32 : Nat.beq op (nat_lit 32) with
  | true =>
    rw [ee_ct c32] at h
    have e9 : op = 32 := Nat.eq_of_beq_eq_true c32
    subst e9
    exact as_28 (Or.inr (Or.inr (Or.inl ⟨rfl, rfl⟩))) hC hs h k
  | false =>
  rw [ee_cf c32] at h
  cases c33 : Nat.beq op (nat_lit 33) with
  | true =>
    rw [ee_ct c33] at h
    have e9 : op = 33 := Nat.eq_of_beq_eq_true c33
    subst e9
    exact as_29 (Or.inr (Or.inr (Or.inl ⟨rfl, rfl⟩))) hcok hC hs h k
  | false =>
  rw [ee_cf c33] at h
  cases c31 : Nat.beq op (nat_lit 31) with
  | true =>
    rw [ee_ct c31] at h
    have e9 : op = 31 := Nat.eq_of_beq_eq_true c31
    subst e9
    exact as_29 (Or.inr (Or.inl ⟨rfl, rfl⟩)) hcok hC hs h k
  | false =>
  rw [ee_cf c31] at h
  cases c22 : Nat.beq op (nat_lit 22) with
  | true =>
    rw [ee_ct c22] at h
    have e9 : op = 22 := Nat.eq_of_beq_eq_true c22
    subst e9
    exact as_22 hC hs h k
  | false =>
  rw [ee_cf c22] at h
  cases c24 : Nat.beq op (nat_lit 24) with
  | true =>
    rw [ee_ct c24] at h
    have e9 : op = 24 := Nat.eq_of_beq_eq_true c24
    subst e9
    exact as_24 hC hs h k
  | false =>
  rw [ee_cf c24] at h
  cases c6 : Nat.beq op (nat_lit 6) with
  | true =>
    rw [ee_ct c6] at h
    have e9 : op = 6 := Nat.eq_of_beq_eq_true c6
    subst e9
    exact as_6 hC hs (by rw [ab_g_eq] at h; exact h) k
  | false =>
  rw [ee_cf c6] at h
  cases c54 : Nat.beq op (nat_lit 54) with
  | true =>
    rw [ee_ct c54] at h
    have e9 : op = 54 := Nat.eq_of_beq_eq_true c54
    subst e9
    exact as_54 hC hs (by rw [ab_g_eq] at h; exact h) k
  | false =>
  rw [ee_cf c54] at h
  cases c8 : Nat.beq op (nat_lit 8) with
  | true =>
    rw [ee_ct c8] at h
    have e9 : op = 8 := Nat.eq_of_beq_eq_true c8
    subst e9
    exact as_8 hC hs h k
  | false =>
  rw [ee_cf c8] at h
  cases c46 : Nat.beq op (nat_lit 46) with
  | true =>
    rw [ee_ct c46] at h
    have e9 : op = 46 := Nat.eq_of_beq_eq_true c46
    subst e9
    exact as_46 hC hs h k
  | false =>
  rw [ee_cf c46] at h
  cases c47 : Nat.beq op (nat_lit 47) with
  | true =>
    rw [ee_ct c47] at h
    have e9 : op = 47 := Nat.eq_of_beq_eq_true c47
    subst e9
    exact as_47 hC hs h k
  | false =>
  rw [ee_cf c47] at h
  cases c49 : Nat.beq op (nat_lit 49) with
  | true =>
    rw [ee_ct c49] at h
    have e9 : op = 49 := Nat.eq_of_beq_eq_true c49
    subst e9
    exact as_49 hC hs h k
  | false =>
  rw [ee_cf c49] at h
  cases c50 : Nat.beq op (nat_lit 50) with
  | true =>
    rw [ee_ct c50] at h
    have e9 : op = 50 := Nat.eq_of_beq_eq_true c50
    subst e9
    exact as_50 hC hs h k
  | false =>
  rw [ee_cf c50] at h
  cases c35 : Nat.beq op (nat_lit 35) with
  | true =>
    rw [ee_ct c35] at h
    have e9 : op = 35 := Nat.eq_of_beq_eq_true c35
    subst e9
    exact as_35 hcap hnc hcok2 hC hs h k
  | false =>
  rw [ee_cf c35] at h
  cases c36 : Nat.beq op (nat_lit 36) with
  | true =>
    rw [ee_ct c36] at h
    have e9 : op = 36 := Nat.eq_of_beq_eq_true c36
    subst e9
    cases ca : (Nat.beq a (nat_lit 0) || (Nat.beq a (nat_lit 1) || Nat.beq a (nat_lit 2))) with
    | false => rw [ee_cf ca] at h; cases h
    | true =>
      rw [ee_ct ca] at h
      rw [Bool.or_eq_true, Bool.or_eq_true] at ca
      exact as_36 (ca.elim (fun z9 => Or.inl (Nat.eq_of_beq_eq_true z9)) (fun z9 => Or.inr (z9.elim (fun z8 => Or.inl (Nat.eq_of_beq_eq_true z8)) (fun z8 => Or.inr (Nat.eq_of_beq_eq_true z8))))) hcap hnc hcok2 hC hs h k
  | false =>
  rw [ee_cf c36] at h
  cases c37 : Nat.beq op (nat_lit 37) with
  | true =>
    rw [ee_ct c37] at h
    have e9 : op = 37 := Nat.eq_of_beq_eq_true c37
    subst e9
    exact as_37 hcap hnc hcok2 hC hs h k
  | false =>
  rw [ee_cf c37] at h
  cases c7 : Nat.beq op (nat_lit 7) with
  | true =>
    rw [ee_ct c7] at h
    have e9 : op = 7 := Nat.eq_of_beq_eq_true c7
    subst e9
    exact as_7 hC hs h k
  | false =>
  rw [ee_cf c7] at h
  cases c27 : Nat.beq op (nat_lit 27) with
  | true =>
    rw [ee_ct c27] at h
    have e9 : op = 27 := Nat.eq_of_beq_eq_true c27
    subst e9
    exact as_27 hC hs h k
  | false =>
  rw [ee_cf c27] at h
  cases c23 : Nat.beq op (nat_lit 23) with
  | true =>
    rw [ee_ct c23] at h
    have e9 : op = 23 := Nat.eq_of_beq_eq_true c23
    subst e9
    exact as_23 hC hs h k
  | false =>
  rw [ee_cf c23] at h
  cases c56 : Nat.beq op (nat_lit 56) with
  | true =>
    rw [ee_ct c56] at h
    have e9 : op = 56 := Nat.eq_of_beq_eq_true c56
    subst e9
    exact as_56 hC hs h k
  | false =>
  rw [ee_cf c56] at h
  cases c57 : Nat.beq op (nat_lit 57) with
  | true =>
    rw [ee_ct c57] at h
    have e9 : op = 57 := Nat.eq_of_beq_eq_true c57
    subst e9
    exact as_57 hC hs h k
  | false =>
  rw [ee_cf c57] at h
  cases c58 : Nat.beq op (nat_lit 58) with
  | true =>
    rw [ee_ct c58] at h
    have e9 : op = 58 := Nat.eq_of_beq_eq_true c58
    subst e9
    exact as_58 hC hs h k
  | false =>
  rw [ee_cf c58] at h
  cases c59 : Nat.beq op (nat_lit 59) with
  | true =>
    rw [ee_ct c59] at h
    have e9 : op = 59 := Nat.eq_of_beq_eq_true c59
    subst e9
    exact as_59 hC hs h k
  | false =>
  rw [ee_cf c59] at h
  cases c60 : (Nat.ble (nat_lit 60) op && Nat.ble op (nat_lit 65)) with
  | true =>
    rw [ee_ct c60] at h
    rw [Bool.and_eq_true] at c60
    have g1 : 60 ≤ op := Nat.le_of_ble_eq_true c60.1
    have g2 : op ≤ 65 := Nat.le_of_ble_eq_true c60.2
    exact as_60 g1 g2 hC hs h k
  | false =>
  rw [ee_cf c60] at h
  cases c66 : (Nat.ble (nat_lit 66) op && Nat.ble op (nat_lit 68)) with
  | true =>
    rw [ee_ct c66] at h
    rw [Bool.and_eq_true] at c66
    have g1 : 66 ≤ op := Nat.le_of_ble_eq_true c66.1
    have g2 : op ≤ 68 := Nat.le_of_ble_eq_true c66.2
    exact as_66 g1 g2 hC hs h k
  | false =>
  rw [ee_cf c66] at h
  cases c69 : Nat.beq op (nat_lit 69) with
  | true =>
    rw [ee_ct c69] at h
    have e9 : op = 69 := Nat.eq_of_beq_eq_true c69
    subst e9
    exact as_69 hC hs h k
  | false =>
  rw [ee_cf c69] at h
  cases c70 : Nat.beq op (nat_lit 70) with
  | true =>
    rw [ee_ct c70] at h
    have e9 : op = 70 := Nat.eq_of_beq_eq_true c70
    subst e9
    exact as_70 hC hs h k
  | false =>
  rw [ee_cf c70] at h
  cases c71 : Nat.beq op (nat_lit 71) with
  | true =>
    rw [ee_ct c71] at h
    have e9 : op = 71 := Nat.eq_of_beq_eq_true c71
    subst e9
    exact as_71 hC hs h k
  | false =>
  rw [ee_cf c71] at h
  cases c72 : Nat.beq op (nat_lit 72) with
  | true =>
    rw [ee_ct c72] at h
    have e9 : op = 72 := Nat.eq_of_beq_eq_true c72
    subst e9
    exact as_28 (Or.inr (Or.inr (Or.inr ⟨rfl, rfl⟩))) hC hs h k
  | false =>
  rw [ee_cf c72] at h
  cases c73 : Nat.beq op (nat_lit 73) with
  | true =>
    rw [ee_ct c73] at h
    have e9 : op = 73 := Nat.eq_of_beq_eq_true c73
    subst e9
    exact as_29 (Or.inr (Or.inr (Or.inr ⟨rfl, rfl⟩))) hcok hC hs h k
  | false =>
  rw [ee_cf c73] at h
  cases c75 : Nat.beq op (nat_lit 75) with
  | true =>
    rw [ee_ct c75] at h
    have e9 : op = 75 := Nat.eq_of_beq_eq_true c75
    subst e9
    exact as_75 hC hs h k
  | false =>
  rw [ee_cf c75] at h
  cases h
end DS
