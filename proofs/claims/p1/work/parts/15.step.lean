/-! ===== one step of the engine, whichever instruction ===== -/
section EST
variable {call : Nat → List ee_V → ee_H → Option ee_R} {xt : ee_X} {d a b n : Nat} {S : ee_S}
theorem ee_st0 : ee_step call xt d (0, a, b, n) S = none := by
  unfold ee_step
  rw [ee_ct (show Nat.blt ((0, a, b, n) : ee_I).1 (nat_lit 25) = true from rfl), ee_ct (show Nat.blt ((0, a, b, n) : ee_I).1 (nat_lit 10) = true from rfl), ee_ct (show Nat.blt ((0, a, b, n) : ee_I).1 (nat_lit 5) = true from rfl), ee_ct (show Nat.blt ((0, a, b, n) : ee_I).1 (nat_lit 3) = true from rfl), ee_cf (show Nat.beq ((0, a, b, n) : ee_I).1 (nat_lit 1) = false from rfl), ee_cf (show Nat.beq ((0, a, b, n) : ee_I).1 (nat_lit 2) = false from rfl)]
theorem ee_st1 : ee_step call xt d (1, a, b, n) S = ee_o1 a n S := by
  unfold ee_step
  rw [ee_ct (show Nat.blt ((1, a, b, n) : ee_I).1 (nat_lit 25) = true from rfl), ee_ct (show Nat.blt ((1, a, b, n) : ee_I).1 (nat_lit 10) = true from rfl), ee_ct (show Nat.blt ((1, a, b, n) : ee_I).1 (nat_lit 5) = true from rfl), ee_ct (show Nat.blt ((1, a, b, n) : ee_I).1 (nat_lit 3) = true from rfl), ee_ct (show Nat.beq ((1, a, b, n) : ee_I).1 (nat_lit 1) = true from rfl)]
theorem ee_st2 : ee_step call xt d (2, a, b, n) S = ee_o2 a n S := by
  unfold ee_step
  rw [ee_ct (show Nat.blt ((2, a, b, n) : ee_I).1 (nat_lit 25) = true from rfl), ee_ct (show Nat.blt ((2, a, b, n) : ee_I).1 (nat_lit 10) = true from rfl), ee_ct (show Nat.blt ((2, a, b, n) : ee_I).1 (nat_lit 5) = true from rfl), ee_ct (show Nat.blt ((2, a, b, n) : ee_I).1 (nat_lit 3) = true from rfl), ee_cf (show Nat.beq ((2, a, b, n) : ee_I).1 (nat_lit 1) = false from rfl), ee_ct (show Nat.beq ((2, a, b, n) : ee_I).1 (nat_lit 2) = true from rfl)]
theorem ee_st3 : ee_step call xt d (3, a, b, n) S = ee_o3 a n S := by
  unfold ee_step
  rw [ee_ct (show Nat.blt ((3, a, b, n) : ee_I).1 (nat_lit 25) = true from rfl), ee_ct (show Nat.blt ((3, a, b, n) : ee_I).1 (nat_lit 10) = true from rfl), ee_ct (show Nat.blt ((3, a, b, n) : ee_I).1 (nat_lit 5) = true from rfl), ee_cf (show Nat.blt ((3, a, b, n) : ee_I).1 (nat_lit 3) = false from rfl), ee_ct (show Nat.beq ((3, a, b, n) : ee_I).1 (nat_lit 3) = true from rfl)]
theorem ee_st4 : ee_step call xt d (4, a, b, n) S = ee_o4 a n S := by
  unfold ee_step
  rw [ee_ct (show Nat.blt ((4, a, b, n) : ee_I).1 (nat_lit 25) = true from rfl), ee_ct (show Nat.blt ((4, a, b, n) : ee_I).1 (nat_lit 10) = true from rfl), ee_ct (show Nat.blt ((4, a, b, n) : ee_I).1 (nat_lit 5) = true from rfl), ee_cf (show Nat.blt ((4, a, b, n) : ee_I).1 (nat_lit 3) = false from rfl), ee_cf (show Nat.beq ((4, a, b, n) : ee_I).1 (nat_lit 3) = false from rfl)]
theorem ee_st5 : ee_step call xt d (5, a, b, n) S = ee_push (.inl (a, a)) n S := by
  unfold ee_step
  rw [ee_ct (show Nat.blt ((5, a, b, n) : ee_I).1 (nat_lit 25) = true from rfl), ee_ct (show Nat.blt ((5, a, b, n) : ee_I).1 (nat_lit 10) = true from rfl), ee_cf (show Nat.blt ((5, a, b, n) : ee_I).1 (nat_lit 5) = false from rfl), ee_ct (show Nat.blt ((5, a, b, n) : ee_I).1 (nat_lit 8) = true from rfl), ee_ct (show Nat.beq ((5, a, b, n) : ee_I).1 (nat_lit 5) = true from rfl)]
theorem ee_st6 : ee_step call xt d (6, a, b, n) S = ee_push (.inl (b, b)) n S := by
  unfold ee_step
  rw [ee_ct (show Nat.blt ((6, a, b, n) : ee_I).1 (nat_lit 25) = true from rfl), ee_ct (show Nat.blt ((6, a, b, n) : ee_I).1 (nat_lit 10) = true from rfl), ee_cf (show Nat.blt ((6, a, b, n) : ee_I).1 (nat_lit 5) = false from rfl), ee_ct (show Nat.blt ((6, a, b, n) : ee_I).1 (nat_lit 8) = true from rfl), ee_cf (show Nat.beq ((6, a, b, n) : ee_I).1 (nat_lit 5) = false from rfl), ee_ct (show Nat.beq ((6, a, b, n) : ee_I).1 (nat_lit 6) = true from rfl)]
theorem ee_st7 : ee_step call xt d (7, a, b, n) S = ee_push (.inr (.inr (Nat.succ b))) n S := by
  unfold ee_step
  rw [ee_ct (show Nat.blt ((7, a, b, n) : ee_I).1 (nat_lit 25) = true from rfl), ee_ct (show Nat.blt ((7, a, b, n) : ee_I).1 (nat_lit 10) = true from rfl), ee_cf (show Nat.blt ((7, a, b, n) : ee_I).1 (nat_lit 5) = false from rfl), ee_ct (show Nat.blt ((7, a, b, n) : ee_I).1 (nat_lit 8) = true from rfl), ee_cf (show Nat.beq ((7, a, b, n) : ee_I).1 (nat_lit 5) = false from rfl), ee_cf (show Nat.beq ((7, a, b, n) : ee_I).1 (nat_lit 6) = false from rfl)]
theorem ee_st8 : ee_step call xt d (8, a, b, n) S = ee_push (.inr (.inl (nat_lit 0))) n S := by
  unfold ee_step
  rw [ee_ct (show Nat.blt ((8, a, b, n) : ee_I).1 (nat_lit 25) = true from rfl), ee_ct (show Nat.blt ((8, a, b, n) : ee_I).1 (nat_lit 10) = true from rfl), ee_cf (show Nat.blt ((8, a, b, n) : ee_I).1 (nat_lit 5) = false from rfl), ee_cf (show Nat.blt ((8, a, b, n) : ee_I).1 (nat_lit 8) = false from rfl), ee_ct (show Nat.beq ((8, a, b, n) : ee_I).1 (nat_lit 8) = true from rfl)]
theorem ee_st9 : ee_step call xt d (9, a, b, n) S = ee_o9 a b n S := by
  unfold ee_step
  rw [ee_ct (show Nat.blt ((9, a, b, n) : ee_I).1 (nat_lit 25) = true from rfl), ee_ct (show Nat.blt ((9, a, b, n) : ee_I).1 (nat_lit 10) = true from rfl), ee_cf (show Nat.blt ((9, a, b, n) : ee_I).1 (nat_lit 5) = false from rfl), ee_cf (show Nat.blt ((9, a, b, n) : ee_I).1 (nat_lit 8) = false from rfl), ee_cf (show Nat.beq ((9, a, b, n) : ee_I).1 (nat_lit 8) = false from rfl)]
theorem ee_st10 : ee_step call xt d (10, a, b, n) S = ee_o10 10 n S := by
  unfold ee_step
  rw [ee_ct (show Nat.blt ((10, a, b, n) : ee_I).1 (nat_lit 25) = true from rfl), ee_cf (show Nat.blt ((10, a, b, n) : ee_I).1 (nat_lit 10) = false from rfl), ee_ct (show Nat.ble ((10, a, b, n) : ee_I).1 (nat_lit 20) = true from rfl)]
theorem ee_st11 : ee_step call xt d (11, a, b, n) S = ee_o10 11 n S := by
  unfold ee_step
  rw [ee_ct (show Nat.blt ((11, a, b, n) : ee_I).1 (nat_lit 25) = true from rfl), ee_cf (show Nat.blt ((11, a, b, n) : ee_I).1 (nat_lit 10) = false from rfl), ee_ct (show Nat.ble ((11, a, b, n) : ee_I).1 (nat_lit 20) = true from rfl)]
theorem ee_st12 : ee_step call xt d (12, a, b, n) S = ee_o10 12 n S := by
  unfold ee_step
  rw [ee_ct (show Nat.blt ((12, a, b, n) : ee_I).1 (nat_lit 25) = true from rfl), ee_cf (show Nat.blt ((12, a, b, n) : ee_I).1 (nat_lit 10) = false from rfl), ee_ct (show Nat.ble ((12, a, b, n) : ee_I).1 (nat_lit 20) = true from rfl)]
theorem ee_st13 : ee_step call xt d (13, a, b, n) S = ee_o10 13 n S := by
  unfold ee_step
  rw [ee_ct (show Nat.blt ((13, a, b, n) : ee_I).1 (nat_lit 25) = true from rfl), ee_cf (show Nat.blt ((13, a, b, n) : ee_I).1 (nat_lit 10) = false from rfl), ee_ct (show Nat.ble ((13, a, b, n) : ee_I).1 (nat_lit 20) = true from rfl)]
theorem ee_st14 : ee_step call xt d (14, a, b, n) S = ee_o10 14 n S := by
  unfold ee_step
  rw [ee_ct (show Nat.blt ((14, a, b, n) : ee_I).1 (nat_lit 25) = true from rfl), ee_cf (show Nat.blt ((14, a, b, n) : ee_I).1 (nat_lit 10) = false from rfl), ee_ct (show Nat.ble ((14, a, b, n) : ee_I).1 (nat_lit 20) = true from rfl)]
theorem ee_st15 : ee_step call xt d (15, a, b, n) S = ee_o10 15 n S := by
  unfold ee_step
  rw [ee_ct (show Nat.blt ((15, a, b, n) : ee_I).1 (nat_lit 25) = true from rfl), ee_cf (show Nat.blt ((15, a, b, n) : ee_I).1 (nat_lit 10) = false from rfl), ee_ct (show Nat.ble ((15, a, b, n) : ee_I).1 (nat_lit 20) = true from rfl)]
theorem ee_st16 : ee_step call xt d (16, a, b, n) S = ee_o10 16 n S := by
  unfold ee_step
  rw [ee_ct (show Nat.blt ((16, a, b, n) : ee_I).1 (nat_lit 25) = true from rfl), ee_cf (show Nat.blt ((16, a, b, n) : ee_I).1 (nat_lit 10) = false from rfl), ee_ct (show Nat.ble ((16, a, b, n) : ee_I).1 (nat_lit 20) = true from rfl)]
theorem ee_st17 : ee_step call xt d (17, a, b, n) S = ee_o10 17 n S := by
  unfold ee_step
  rw [ee_ct (show Nat.blt ((17, a, b, n) : ee_I).1 (nat_lit 25) = true from rfl), ee_cf (show Nat.blt ((17, a, b, n) : ee_I).1 (nat_lit 10) = false from rfl), ee_ct (show Nat.ble ((17, a, b, n) : ee_I).1 (nat_lit 20) = true from rfl)]
theorem ee_st18 : ee_step call xt d (18, a, b, n) S = ee_o10 18 n S := by
  unfold ee_step
  rw [ee_ct (show Nat.blt ((18, a, b, n) : ee_I).1 (nat_lit 25) = true from rfl), ee_cf (show Nat.blt ((18, a, b, n) : ee_I).1 (nat_lit 10) = false from rfl), ee_ct (show Nat.ble ((18, a, b, n) : ee_I).1 (nat_lit 20) = true from rfl)]
theorem ee_st19 : ee_step call xt d (19, a, b, n) S = ee_o10 19 n S := by
  unfold ee_step
  rw [ee_ct (show Nat.blt ((19, a, b, n) : ee_I).1 (nat_lit 25) = true from rfl), ee_cf (show Nat.blt ((19, a, b, n) : ee_I).1 (nat_lit 10) = false from rfl), ee_ct (show Nat.ble ((19, a, b, n) : ee_I).1 (nat_lit 20) = true from rfl)]
theorem ee_st20 : ee_step call xt d (20, a, b, n) S = ee_o10 20 n S := by
  unfold ee_step
  rw [ee_ct (show Nat.blt ((20, a, b, n) : ee_I).1 (nat_lit 25) = true from rfl), ee_cf (show Nat.blt ((20, a, b, n) : ee_I).1 (nat_lit 10) = false from rfl), ee_ct (show Nat.ble ((20, a, b, n) : ee_I).1 (nat_lit 20) = true from rfl)]
theorem ee_st21 : ee_step call xt d (21, a, b, n) S = none := by
  unfold ee_step
  rw [ee_ct (show Nat.blt ((21, a, b, n) : ee_I).1 (nat_lit 25) = true from rfl), ee_cf (show Nat.blt ((21, a, b, n) : ee_I).1 (nat_lit 10) = false from rfl), ee_cf (show Nat.ble ((21, a, b, n) : ee_I).1 (nat_lit 20) = false from rfl), ee_cf (show Nat.beq ((21, a, b, n) : ee_I).1 (nat_lit 22) = false from rfl), ee_cf (show Nat.beq ((21, a, b, n) : ee_I).1 (nat_lit 23) = false from rfl), ee_cf (show Nat.beq ((21, a, b, n) : ee_I).1 (nat_lit 24) = false from rfl)]
theorem ee_st22 : ee_step call xt d (22, a, b, n) S = ee_o22 n S := by
  unfold ee_step
  rw [ee_ct (show Nat.blt ((22, a, b, n) : ee_I).1 (nat_lit 25) = true from rfl), ee_cf (show Nat.blt ((22, a, b, n) : ee_I).1 (nat_lit 10) = false from rfl), ee_cf (show Nat.ble ((22, a, b, n) : ee_I).1 (nat_lit 20) = false from rfl), ee_ct (show Nat.beq ((22, a, b, n) : ee_I).1 (nat_lit 22) = true from rfl)]
theorem ee_st23 : ee_step call xt d (23, a, b, n) S = ee_o23 n S := by
  unfold ee_step
  rw [ee_ct (show Nat.blt ((23, a, b, n) : ee_I).1 (nat_lit 25) = true from rfl), ee_cf (show Nat.blt ((23, a, b, n) : ee_I).1 (nat_lit 10) = false from rfl), ee_cf (show Nat.ble ((23, a, b, n) : ee_I).1 (nat_lit 20) = false from rfl), ee_cf (show Nat.beq ((23, a, b, n) : ee_I).1 (nat_lit 22) = false from rfl), ee_ct (show Nat.beq ((23, a, b, n) : ee_I).1 (nat_lit 23) = true from rfl)]
theorem ee_st24 : ee_step call xt d (24, a, b, n) S = ee_o24 n S := by
  unfold ee_step
  rw [ee_ct (show Nat.blt ((24, a, b, n) : ee_I).1 (nat_lit 25) = true from rfl), ee_cf (show Nat.blt ((24, a, b, n) : ee_I).1 (nat_lit 10) = false from rfl), ee_cf (show Nat.ble ((24, a, b, n) : ee_I).1 (nat_lit 20) = false from rfl), ee_cf (show Nat.beq ((24, a, b, n) : ee_I).1 (nat_lit 22) = false from rfl), ee_cf (show Nat.beq ((24, a, b, n) : ee_I).1 (nat_lit 23) = false from rfl), ee_ct (show Nat.beq ((24, a, b, n) : ee_I).1 (nat_lit 24) = true from rfl)]
theorem ee_st25 : ee_step call xt d (25, a, b, n) S = ee_o25 b n S := by
  unfold ee_step
  rw [ee_cf (show Nat.blt ((25, a, b, n) : ee_I).1 (nat_lit 25) = false from rfl), ee_ct (show Nat.blt ((25, a, b, n) : ee_I).1 (nat_lit 38) = true from rfl), ee_ct (show Nat.blt ((25, a, b, n) : ee_I).1 (nat_lit 28) = true from rfl), ee_ct (show Nat.beq ((25, a, b, n) : ee_I).1 (nat_lit 25) = true from rfl)]
theorem ee_st26 : ee_step call xt d (26, a, b, n) S = ee_o26 b n S := by
  unfold ee_step
  rw [ee_cf (show Nat.blt ((26, a, b, n) : ee_I).1 (nat_lit 25) = false from rfl), ee_ct (show Nat.blt ((26, a, b, n) : ee_I).1 (nat_lit 38) = true from rfl), ee_ct (show Nat.blt ((26, a, b, n) : ee_I).1 (nat_lit 28) = true from rfl), ee_cf (show Nat.beq ((26, a, b, n) : ee_I).1 (nat_lit 25) = false from rfl), ee_ct (show Nat.beq ((26, a, b, n) : ee_I).1 (nat_lit 26) = true from rfl)]
theorem ee_st27 : ee_step call xt d (27, a, b, n) S = ee_push (.inr (.inr (Nat.succ b))) n S := by
  unfold ee_step
  rw [ee_cf (show Nat.blt ((27, a, b, n) : ee_I).1 (nat_lit 25) = false from rfl), ee_ct (show Nat.blt ((27, a, b, n) : ee_I).1 (nat_lit 38) = true from rfl), ee_ct (show Nat.blt ((27, a, b, n) : ee_I).1 (nat_lit 28) = true from rfl), ee_cf (show Nat.beq ((27, a, b, n) : ee_I).1 (nat_lit 25) = false from rfl), ee_cf (show Nat.beq ((27, a, b, n) : ee_I).1 (nat_lit 26) = false from rfl)]
theorem ee_st28 : ee_step call xt d (28, a, b, n) S = ee_o28 xt (nat_lit 0) n S := by
  unfold ee_step
  rw [ee_cf (show Nat.blt ((28, a, b, n) : ee_I).1 (nat_lit 25) = false from rfl), ee_ct (show Nat.blt ((28, a, b, n) : ee_I).1 (nat_lit 38) = true from rfl), ee_cf (show Nat.blt ((28, a, b, n) : ee_I).1 (nat_lit 28) = false from rfl), ee_ct (show Nat.blt ((28, a, b, n) : ee_I).1 (nat_lit 31) = true from rfl), ee_ct (show Nat.beq ((28, a, b, n) : ee_I).1 (nat_lit 28) = true from rfl)]
theorem ee_st29 : ee_step call xt d (29, a, b, n) S = ee_o29 (nat_lit 0) n S := by
  unfold ee_step
  rw [ee_cf (show Nat.blt ((29, a, b, n) : ee_I).1 (nat_lit 25) = false from rfl), ee_ct (show Nat.blt ((29, a, b, n) : ee_I).1 (nat_lit 38) = true from rfl), ee_cf (show Nat.blt ((29, a, b, n) : ee_I).1 (nat_lit 28) = false from rfl), ee_ct (show Nat.blt ((29, a, b, n) : ee_I).1 (nat_lit 31) = true from rfl), ee_cf (show Nat.beq ((29, a, b, n) : ee_I).1 (nat_lit 28) = false from rfl), ee_ct (show Nat.beq ((29, a, b, n) : ee_I).1 (nat_lit 29) = true from rfl)]
theorem ee_st30 : ee_step call xt d (30, a, b, n) S = ee_o28 xt (nat_lit 3) n S := by
  unfold ee_step
  rw [ee_cf (show Nat.blt ((30, a, b, n) : ee_I).1 (nat_lit 25) = false from rfl), ee_ct (show Nat.blt ((30, a, b, n) : ee_I).1 (nat_lit 38) = true from rfl), ee_cf (show Nat.blt ((30, a, b, n) : ee_I).1 (nat_lit 28) = false from rfl), ee_ct (show Nat.blt ((30, a, b, n) : ee_I).1 (nat_lit 31) = true from rfl), ee_cf (show Nat.beq ((30, a, b, n) : ee_I).1 (nat_lit 28) = false from rfl), ee_cf (show Nat.beq ((30, a, b, n) : ee_I).1 (nat_lit 29) = false from rfl)]
theorem ee_st31 : ee_step call xt d (31, a, b, n) S = ee_o29 (nat_lit 3) n S := by
  unfold ee_step
  rw [ee_cf (show Nat.blt ((31, a, b, n) : ee_I).1 (nat_lit 25) = false from rfl), ee_ct (show Nat.blt ((31, a, b, n) : ee_I).1 (nat_lit 38) = true from rfl), ee_cf (show Nat.blt ((31, a, b, n) : ee_I).1 (nat_lit 28) = false from rfl), ee_cf (show Nat.blt ((31, a, b, n) : ee_I).1 (nat_lit 31) = false from rfl), ee_ct (show Nat.blt ((31, a, b, n) : ee_I).1 (nat_lit 34) = true from rfl), ee_ct (show Nat.beq ((31, a, b, n) : ee_I).1 (nat_lit 31) = true from rfl)]
theorem ee_st32 : ee_step call xt d (32, a, b, n) S = ee_o28 xt (nat_lit 2) n S := by
  unfold ee_step
  rw [ee_cf (show Nat.blt ((32, a, b, n) : ee_I).1 (nat_lit 25) = false from rfl), ee_ct (show Nat.blt ((32, a, b, n) : ee_I).1 (nat_lit 38) = true from rfl), ee_cf (show Nat.blt ((32, a, b, n) : ee_I).1 (nat_lit 28) = false from rfl), ee_cf (show Nat.blt ((32, a, b, n) : ee_I).1 (nat_lit 31) = false from rfl), ee_ct (show Nat.blt ((32, a, b, n) : ee_I).1 (nat_lit 34) = true from rfl), ee_cf (show Nat.beq ((32, a, b, n) : ee_I).1 (nat_lit 31) = false from rfl), ee_ct (show Nat.beq ((32, a, b, n) : ee_I).1 (nat_lit 32) = true from rfl)]
theorem ee_st33 : ee_step call xt d (33, a, b, n) S = ee_o29 (nat_lit 2) n S := by
  unfold ee_step
  rw [ee_cf (show Nat.blt ((33, a, b, n) : ee_I).1 (nat_lit 25) = false from rfl), ee_ct (show Nat.blt ((33, a, b, n) : ee_I).1 (nat_lit 38) = true from rfl), ee_cf (show Nat.blt ((33, a, b, n) : ee_I).1 (nat_lit 28) = false from rfl), ee_cf (show Nat.blt ((33, a, b, n) : ee_I).1 (nat_lit 31) = false from rfl), ee_ct (show Nat.blt ((33, a, b, n) : ee_I).1 (nat_lit 34) = true from rfl), ee_cf (show Nat.beq ((33, a, b, n) : ee_I).1 (nat_lit 31) = false from rfl), ee_cf (show Nat.beq ((33, a, b, n) : ee_I).1 (nat_lit 32) = false from rfl)]
theorem ee_st34 : ee_step call xt d (34, a, b, n) S = ee_o34 xt n S := by
  unfold ee_step
  rw [ee_cf (show Nat.blt ((34, a, b, n) : ee_I).1 (nat_lit 25) = false from rfl), ee_ct (show Nat.blt ((34, a, b, n) : ee_I).1 (nat_lit 38) = true from rfl), ee_cf (show Nat.blt ((34, a, b, n) : ee_I).1 (nat_lit 28) = false from rfl), ee_cf (show Nat.blt ((34, a, b, n) : ee_I).1 (nat_lit 31) = false from rfl), ee_cf (show Nat.blt ((34, a, b, n) : ee_I).1 (nat_lit 34) = false from rfl), ee_ct (show Nat.beq ((34, a, b, n) : ee_I).1 (nat_lit 34) = true from rfl)]
theorem ee_st35 : ee_step call xt d (35, a, b, n) S = ee_o35 b n S := by
  unfold ee_step
  rw [ee_cf (show Nat.blt ((35, a, b, n) : ee_I).1 (nat_lit 25) = false from rfl), ee_ct (show Nat.blt ((35, a, b, n) : ee_I).1 (nat_lit 38) = true from rfl), ee_cf (show Nat.blt ((35, a, b, n) : ee_I).1 (nat_lit 28) = false from rfl), ee_cf (show Nat.blt ((35, a, b, n) : ee_I).1 (nat_lit 31) = false from rfl), ee_cf (show Nat.blt ((35, a, b, n) : ee_I).1 (nat_lit 34) = false from rfl), ee_cf (show Nat.beq ((35, a, b, n) : ee_I).1 (nat_lit 34) = false from rfl), ee_ct (show Nat.beq ((35, a, b, n) : ee_I).1 (nat_lit 35) = true from rfl)]
theorem ee_st36 : ee_step call xt d (36, a, b, n) S = ee_o36 a n S := by
  unfold ee_step
  rw [ee_cf (show Nat.blt ((36, a, b, n) : ee_I).1 (nat_lit 25) = false from rfl), ee_ct (show Nat.blt ((36, a, b, n) : ee_I).1 (nat_lit 38) = true from rfl), ee_cf (show Nat.blt ((36, a, b, n) : ee_I).1 (nat_lit 28) = false from rfl), ee_cf (show Nat.blt ((36, a, b, n) : ee_I).1 (nat_lit 31) = false from rfl), ee_cf (show Nat.blt ((36, a, b, n) : ee_I).1 (nat_lit 34) = false from rfl), ee_cf (show Nat.beq ((36, a, b, n) : ee_I).1 (nat_lit 34) = false from rfl), ee_cf (show Nat.beq ((36, a, b, n) : ee_I).1 (nat_lit 35) = false from rfl), ee_ct (show Nat.beq ((36, a, b, n) : ee_I).1 (nat_lit 36) = true from rfl)]
theorem ee_st37 : ee_step call xt d (37, a, b, n) S = ee_o36 b n S := by
  unfold ee_step
  rw [ee_cf (show Nat.blt ((37, a, b, n) : ee_I).1 (nat_lit 25) = false from rfl), ee_ct (show Nat.blt ((37, a, b, n) : ee_I).1 (nat_lit 38) = true from rfl), ee_cf (show Nat.blt ((37, a, b, n) : ee_I).1 (nat_lit 28) = false from rfl), ee_cf (show Nat.blt ((37, a, b, n) : ee_I).1 (nat_lit 31) = false from rfl), ee_cf (show Nat.blt ((37, a, b, n) : ee_I).1 (nat_lit 34) = false from rfl), ee_cf (show Nat.beq ((37, a, b, n) : ee_I).1 (nat_lit 34) = false from rfl), ee_cf (show Nat.beq ((37, a, b, n) : ee_I).1 (nat_lit 35) = false from rfl), ee_cf (show Nat.beq ((37, a, b, n) : ee_I).1 (nat_lit 36) = false from rfl)]
theorem ee_st38 : ee_step call xt d (38, a, b, n) S = ee_o38 d n S := by
  unfold ee_step
  rw [ee_cf (show Nat.blt ((38, a, b, n) : ee_I).1 (nat_lit 25) = false from rfl), ee_cf (show Nat.blt ((38, a, b, n) : ee_I).1 (nat_lit 38) = false from rfl), ee_ct (show Nat.blt ((38, a, b, n) : ee_I).1 (nat_lit 44) = true from rfl), ee_ct (show Nat.blt ((38, a, b, n) : ee_I).1 (nat_lit 41) = true from rfl), ee_ct (show Nat.beq ((38, a, b, n) : ee_I).1 (nat_lit 38) = true from rfl)]
theorem ee_st39 : ee_step call xt d (39, a, b, n) S = ee_o39 call true false b n S := by
  unfold ee_step
  rw [ee_cf (show Nat.blt ((39, a, b, n) : ee_I).1 (nat_lit 25) = false from rfl), ee_cf (show Nat.blt ((39, a, b, n) : ee_I).1 (nat_lit 38) = false from rfl), ee_ct (show Nat.blt ((39, a, b, n) : ee_I).1 (nat_lit 44) = true from rfl), ee_ct (show Nat.blt ((39, a, b, n) : ee_I).1 (nat_lit 41) = true from rfl), ee_cf (show Nat.beq ((39, a, b, n) : ee_I).1 (nat_lit 38) = false from rfl), ee_ct (show Nat.beq ((39, a, b, n) : ee_I).1 (nat_lit 39) = true from rfl)]
theorem ee_st40 : ee_step call xt d (40, a, b, n) S = ee_o39 call true true b n S := by
  unfold ee_step
  rw [ee_cf (show Nat.blt ((40, a, b, n) : ee_I).1 (nat_lit 25) = false from rfl), ee_cf (show Nat.blt ((40, a, b, n) : ee_I).1 (nat_lit 38) = false from rfl), ee_ct (show Nat.blt ((40, a, b, n) : ee_I).1 (nat_lit 44) = true from rfl), ee_ct (show Nat.blt ((40, a, b, n) : ee_I).1 (nat_lit 41) = true from rfl), ee_cf (show Nat.beq ((40, a, b, n) : ee_I).1 (nat_lit 38) = false from rfl), ee_cf (show Nat.beq ((40, a, b, n) : ee_I).1 (nat_lit 39) = false from rfl)]
theorem ee_st41 : ee_step call xt d (41, a, b, n) S = ee_o39 call false false b n S := by
  unfold ee_step
  rw [ee_cf (show Nat.blt ((41, a, b, n) : ee_I).1 (nat_lit 25) = false from rfl), ee_cf (show Nat.blt ((41, a, b, n) : ee_I).1 (nat_lit 38) = false from rfl), ee_ct (show Nat.blt ((41, a, b, n) : ee_I).1 (nat_lit 44) = true from rfl), ee_cf (show Nat.blt ((41, a, b, n) : ee_I).1 (nat_lit 41) = false from rfl), ee_cf (show Nat.beq ((41, a, b, n) : ee_I).1 (nat_lit 43) = false from rfl)]
theorem ee_st42 : ee_step call xt d (42, a, b, n) S = ee_o39 call false false b n S := by
  unfold ee_step
  rw [ee_cf (show Nat.blt ((42, a, b, n) : ee_I).1 (nat_lit 25) = false from rfl), ee_cf (show Nat.blt ((42, a, b, n) : ee_I).1 (nat_lit 38) = false from rfl), ee_ct (show Nat.blt ((42, a, b, n) : ee_I).1 (nat_lit 44) = true from rfl), ee_cf (show Nat.blt ((42, a, b, n) : ee_I).1 (nat_lit 41) = false from rfl), ee_cf (show Nat.beq ((42, a, b, n) : ee_I).1 (nat_lit 43) = false from rfl)]
theorem ee_st43 : ee_step call xt d (43, a, b, n) S = ee_o43 d n S := by
  unfold ee_step
  rw [ee_cf (show Nat.blt ((43, a, b, n) : ee_I).1 (nat_lit 25) = false from rfl), ee_cf (show Nat.blt ((43, a, b, n) : ee_I).1 (nat_lit 38) = false from rfl), ee_ct (show Nat.blt ((43, a, b, n) : ee_I).1 (nat_lit 44) = true from rfl), ee_cf (show Nat.blt ((43, a, b, n) : ee_I).1 (nat_lit 41) = false from rfl), ee_ct (show Nat.beq ((43, a, b, n) : ee_I).1 (nat_lit 43) = true from rfl)]
theorem ee_st44 : ee_step call xt d (44, a, b, n) S = ee_o44 a b n S := by
  unfold ee_step
  rw [ee_cf (show Nat.blt ((44, a, b, n) : ee_I).1 (nat_lit 25) = false from rfl), ee_cf (show Nat.blt ((44, a, b, n) : ee_I).1 (nat_lit 38) = false from rfl), ee_cf (show Nat.blt ((44, a, b, n) : ee_I).1 (nat_lit 44) = false from rfl), ee_ct (show Nat.blt ((44, a, b, n) : ee_I).1 (nat_lit 47) = true from rfl), ee_ct (show Nat.beq ((44, a, b, n) : ee_I).1 (nat_lit 44) = true from rfl)]
theorem ee_st45 : ee_step call xt d (45, a, b, n) S = ee_o45 a b n S := by
  unfold ee_step
  rw [ee_cf (show Nat.blt ((45, a, b, n) : ee_I).1 (nat_lit 25) = false from rfl), ee_cf (show Nat.blt ((45, a, b, n) : ee_I).1 (nat_lit 38) = false from rfl), ee_cf (show Nat.blt ((45, a, b, n) : ee_I).1 (nat_lit 44) = false from rfl), ee_ct (show Nat.blt ((45, a, b, n) : ee_I).1 (nat_lit 47) = true from rfl), ee_cf (show Nat.beq ((45, a, b, n) : ee_I).1 (nat_lit 44) = false from rfl), ee_ct (show Nat.beq ((45, a, b, n) : ee_I).1 (nat_lit 45) = true from rfl)]
theorem ee_st46 : ee_step call xt d (46, a, b, n) S = ee_o46 true b n S := by
  unfold ee_step
  rw [ee_cf (show Nat.blt ((46, a, b, n) : ee_I).1 (nat_lit 25) = false from rfl), ee_cf (show Nat.blt ((46, a, b, n) : ee_I).1 (nat_lit 38) = false from rfl), ee_cf (show Nat.blt ((46, a, b, n) : ee_I).1 (nat_lit 44) = false from rfl), ee_ct (show Nat.blt ((46, a, b, n) : ee_I).1 (nat_lit 47) = true from rfl), ee_cf (show Nat.beq ((46, a, b, n) : ee_I).1 (nat_lit 44) = false from rfl), ee_cf (show Nat.beq ((46, a, b, n) : ee_I).1 (nat_lit 45) = false from rfl)]
theorem ee_st47 : ee_step call xt d (47, a, b, n) S = ee_o46 false b n S := by
  unfold ee_step
  rw [ee_cf (show Nat.blt ((47, a, b, n) : ee_I).1 (nat_lit 25) = false from rfl), ee_cf (show Nat.blt ((47, a, b, n) : ee_I).1 (nat_lit 38) = false from rfl), ee_cf (show Nat.blt ((47, a, b, n) : ee_I).1 (nat_lit 44) = false from rfl), ee_cf (show Nat.blt ((47, a, b, n) : ee_I).1 (nat_lit 47) = false from rfl), ee_ct (show Nat.blt ((47, a, b, n) : ee_I).1 (nat_lit 50) = true from rfl), ee_ct (show Nat.beq ((47, a, b, n) : ee_I).1 (nat_lit 47) = true from rfl)]
theorem ee_st48 : ee_step call xt d (48, a, b, n) S = ee_o48 b S := by
  unfold ee_step
  rw [ee_cf (show Nat.blt ((48, a, b, n) : ee_I).1 (nat_lit 25) = false from rfl), ee_cf (show Nat.blt ((48, a, b, n) : ee_I).1 (nat_lit 38) = false from rfl), ee_cf (show Nat.blt ((48, a, b, n) : ee_I).1 (nat_lit 44) = false from rfl), ee_cf (show Nat.blt ((48, a, b, n) : ee_I).1 (nat_lit 47) = false from rfl), ee_ct (show Nat.blt ((48, a, b, n) : ee_I).1 (nat_lit 50) = true from rfl), ee_cf (show Nat.beq ((48, a, b, n) : ee_I).1 (nat_lit 47) = false from rfl), ee_ct (show Nat.beq ((48, a, b, n) : ee_I).1 (nat_lit 48) = true from rfl)]
theorem ee_st49 : ee_step call xt d (49, a, b, n) S = ee_o49 (ee_ts a) S := by
  unfold ee_step
  rw [ee_cf (show Nat.blt ((49, a, b, n) : ee_I).1 (nat_lit 25) = false from rfl), ee_cf (show Nat.blt ((49, a, b, n) : ee_I).1 (nat_lit 38) = false from rfl), ee_cf (show Nat.blt ((49, a, b, n) : ee_I).1 (nat_lit 44) = false from rfl), ee_cf (show Nat.blt ((49, a, b, n) : ee_I).1 (nat_lit 47) = false from rfl), ee_ct (show Nat.blt ((49, a, b, n) : ee_I).1 (nat_lit 50) = true from rfl), ee_cf (show Nat.beq ((49, a, b, n) : ee_I).1 (nat_lit 47) = false from rfl), ee_cf (show Nat.beq ((49, a, b, n) : ee_I).1 (nat_lit 48) = false from rfl)]
theorem ee_st50 : ee_step call xt d (50, a, b, n) S = ee_o50 (ee_ls a) S := by
  unfold ee_step
  rw [ee_cf (show Nat.blt ((50, a, b, n) : ee_I).1 (nat_lit 25) = false from rfl), ee_cf (show Nat.blt ((50, a, b, n) : ee_I).1 (nat_lit 38) = false from rfl), ee_cf (show Nat.blt ((50, a, b, n) : ee_I).1 (nat_lit 44) = false from rfl), ee_cf (show Nat.blt ((50, a, b, n) : ee_I).1 (nat_lit 47) = false from rfl), ee_cf (show Nat.blt ((50, a, b, n) : ee_I).1 (nat_lit 50) = false from rfl), ee_ct (show Nat.beq ((50, a, b, n) : ee_I).1 (nat_lit 50) = true from rfl)]
theorem ee_st51 : ee_step call xt d (51, a, b, n) S = none := by
  unfold ee_step
  rw [ee_cf (show Nat.blt ((51, a, b, n) : ee_I).1 (nat_lit 25) = false from rfl), ee_cf (show Nat.blt ((51, a, b, n) : ee_I).1 (nat_lit 38) = false from rfl), ee_cf (show Nat.blt ((51, a, b, n) : ee_I).1 (nat_lit 44) = false from rfl), ee_cf (show Nat.blt ((51, a, b, n) : ee_I).1 (nat_lit 47) = false from rfl), ee_cf (show Nat.blt ((51, a, b, n) : ee_I).1 (nat_lit 50) = false from rfl), ee_cf (show Nat.beq ((51, a, b, n) : ee_I).1 (nat_lit 50) = false from rfl), ee_cf (show Nat.beq ((51, a, b, n) : ee_I).1 (nat_lit 54) = false from rfl), ee_cf (show Nat.beq ((51, a, b, n) : ee_I).1 (nat_lit 55) = false from rfl)]
theorem ee_st52 : ee_step call xt d (52, a, b, n) S = none := by
  unfold ee_step
  rw [ee_cf (show Nat.blt ((52, a, b, n) : ee_I).1 (nat_lit 25) = false from rfl), ee_cf (show Nat.blt ((52, a, b, n) : ee_I).1 (nat_lit 38) = false from rfl), ee_cf (show Nat.blt ((52, a, b, n) : ee_I).1 (nat_lit 44) = false from rfl), ee_cf (show Nat.blt ((52, a, b, n) : ee_I).1 (nat_lit 47) = false from rfl), ee_cf (show Nat.blt ((52, a, b, n) : ee_I).1 (nat_lit 50) = false from rfl), ee_cf (show Nat.beq ((52, a, b, n) : ee_I).1 (nat_lit 50) = false from rfl), ee_cf (show Nat.beq ((52, a, b, n) : ee_I).1 (nat_lit 54) = false from rfl), ee_cf (show Nat.beq ((52, a, b, n) : ee_I).1 (nat_lit 55) = false from rfl)]
theorem ee_st53 : ee_step call xt d (53, a, b, n) S = none := by
  unfold ee_step
  rw [ee_cf (show Nat.blt ((53, a, b, n) : ee_I).1 (nat_lit 25) = false from rfl), ee_cf (show Nat.blt ((53, a, b, n) : ee_I).1 (nat_lit 38) = false from rfl), ee_cf (show Nat.blt ((53, a, b, n) : ee_I).1 (nat_lit 44) = false from rfl), ee_cf (show Nat.blt ((53, a, b, n) : ee_I).1 (nat_lit 47) = false from rfl), ee_cf (show Nat.blt ((53, a, b, n) : ee_I).1 (nat_lit 50) = false from rfl), ee_cf (show Nat.beq ((53, a, b, n) : ee_I).1 (nat_lit 50) = false from rfl), ee_cf (show Nat.beq ((53, a, b, n) : ee_I).1 (nat_lit 54) = false from rfl), ee_cf (show Nat.beq ((53, a, b, n) : ee_I).1 (nat_lit 55) = false from rfl)]
theorem ee_st54 : ee_step call xt d (54, a, b, n) S = ee_push (.inl (b, b)) n S := by
  unfold ee_step
  rw [ee_cf (show Nat.blt ((54, a, b, n) : ee_I).1 (nat_lit 25) = false from rfl), ee_cf (show Nat.blt ((54, a, b, n) : ee_I).1 (nat_lit 38) = false from rfl), ee_cf (show Nat.blt ((54, a, b, n) : ee_I).1 (nat_lit 44) = false from rfl), ee_cf (show Nat.blt ((54, a, b, n) : ee_I).1 (nat_lit 47) = false from rfl), ee_cf (show Nat.blt ((54, a, b, n) : ee_I).1 (nat_lit 50) = false from rfl), ee_cf (show Nat.beq ((54, a, b, n) : ee_I).1 (nat_lit 50) = false from rfl), ee_ct (show Nat.beq ((54, a, b, n) : ee_I).1 (nat_lit 54) = true from rfl)]
theorem ee_st55 : ee_step call xt d (55, a, b, n) S = ee_o55 d n S := by
  unfold ee_step
  rw [ee_cf (show Nat.blt ((55, a, b, n) : ee_I).1 (nat_lit 25) = false from rfl), ee_cf (show Nat.blt ((55, a, b, n) : ee_I).1 (nat_lit 38) = false from rfl), ee_cf (show Nat.blt ((55, a, b, n) : ee_I).1 (nat_lit 44) = false from rfl), ee_cf (show Nat.blt ((55, a, b, n) : ee_I).1 (nat_lit 47) = false from rfl), ee_cf (show Nat.blt ((55, a, b, n) : ee_I).1 (nat_lit 50) = false from rfl), ee_cf (show Nat.beq ((55, a, b, n) : ee_I).1 (nat_lit 50) = false from rfl), ee_cf (show Nat.beq ((55, a, b, n) : ee_I).1 (nat_lit 54) = false from rfl), ee_ct (show Nat.beq ((55, a, b, n) : ee_I).1 (nat_lit 55) = true from rfl)]
end EST
def ee_le (S S' : ee_S) : Prop := S.2.2.2.2.1 ≤ S'.2.2.2.2.1 ∧ S.2.2.2.2.2 ≤ S'.2.2.2.2.2
section EMO
variable {call : Nat → List ee_V → ee_H → Option ee_R} {xt : ee_X} {d a b n op want : Nat} {S S' : ee_S}
theorem em_o1 (h : ee_o1 a n S = some S') : ee_le S S' := by
  unfold ee_o1 at h
  try simp only [Bool.cond_eq_ite, ee_f_eq] at h
  repeat' (first | (cases h; exact ⟨Nat.le_refl _, Nat.le_refl _⟩) | (cases h; done) | split at h)
theorem em_o2 (h : ee_o2 a n S = some S') : ee_le S S' := by
  unfold ee_o2 at h
  try simp only [Bool.cond_eq_ite, ee_f_eq] at h
  repeat' (first | (cases h; exact ⟨Nat.le_refl _, Nat.le_refl _⟩) | (cases h; done) | split at h)
theorem em_o3 (h : ee_o3 a n S = some S') : ee_le S S' := by
  unfold ee_o3 at h
  try simp only [Bool.cond_eq_ite, ee_f_eq] at h
  repeat' (first | (cases h; exact ⟨Nat.le_refl _, Nat.le_refl _⟩) | (cases h; done) | split at h)
theorem em_o4 (h : ee_o4 a n S = some S') : ee_le S S' := by
  unfold ee_o4 at h
  try simp only [Bool.cond_eq_ite, ee_f_eq] at h
  repeat' (first | (cases h; exact ⟨Nat.le_refl _, Nat.le_refl _⟩) | (cases h; done) | split at h)
theorem em_o22 (h : ee_o22 n S = some S') : ee_le S S' := by
  unfold ee_o22 at h
  try simp only [Bool.cond_eq_ite, ee_f_eq] at h
  repeat' (first | (cases h; exact ⟨Nat.le_refl _, Nat.le_refl _⟩) | (cases h; done) | split at h)
theorem em_o23 (h : ee_o23 n S = some S') : ee_le S S' := by
  unfold ee_o23 at h
  try simp only [Bool.cond_eq_ite, ee_f_eq] at h
  repeat' (first | (cases h; exact ⟨Nat.le_refl _, Nat.le_refl _⟩) | (cases h; done) | split at h)
theorem em_o24 (h : ee_o24 n S = some S') : ee_le S S' := by
  unfold ee_o24 at h
  try simp only [Bool.cond_eq_ite, ee_f_eq] at h
  repeat' (first | (cases h; exact ⟨Nat.le_refl _, Nat.le_refl _⟩) | (cases h; done) | split at h)
theorem em_o25 (h : ee_o25 b n S = some S') : ee_le S S' := by
  unfold ee_o25 at h
  try simp only [Bool.cond_eq_ite, ee_f_eq] at h
  repeat' (first | (cases h; exact ⟨Nat.le_refl _, Nat.le_refl _⟩) | (cases h; done) | split at h)
theorem em_o26 (h : ee_o26 b n S = some S') : ee_le S S' := by
  unfold ee_o26 at h
  try simp only [Bool.cond_eq_ite, ee_f_eq] at h
  repeat' (first | (cases h; exact ⟨Nat.le_refl _, Nat.le_refl _⟩) | (cases h; done) | split at h)
theorem em_o28 (h : ee_o28 xt want n S = some S') : ee_le S S' := by
  unfold ee_o28 at h
  try simp only [Bool.cond_eq_ite, ee_f_eq] at h
  repeat' (first | (cases h; exact ⟨Nat.le_refl _, Nat.le_refl _⟩) | (cases h; done) | split at h)
theorem em_o29 (h : ee_o29 want n S = some S') : ee_le S S' := by
  unfold ee_o29 at h
  try simp only [Bool.cond_eq_ite, ee_f_eq] at h
  repeat' (first | (cases h; exact ⟨Nat.le_refl _, Nat.le_refl _⟩) | (cases h; done) | split at h)
theorem em_o34 (h : ee_o34 xt n S = some S') : ee_le S S' := by
  unfold ee_o34 at h
  try simp only [Bool.cond_eq_ite, ee_f_eq] at h
  repeat' (first | (cases h; exact ⟨Nat.le_refl _, Nat.le_refl _⟩) | (cases h; done) | split at h)
theorem em_o38 (h : ee_o38 d n S = some S') : ee_le S S' := by
  unfold ee_o38 at h
  try simp only [Bool.cond_eq_ite, ee_f_eq] at h
  repeat' (first | (cases h; exact ⟨Nat.le_refl _, Nat.le_refl _⟩) | (cases h; done) | split at h)
theorem em_o44 (h : ee_o44 a b n S = some S') : ee_le S S' := by
  unfold ee_o44 at h
  try simp only [Bool.cond_eq_ite, ee_f_eq] at h
  repeat' (first | (cases h; exact ⟨Nat.le_refl _, Nat.le_refl _⟩) | (cases h; done) | split at h)
theorem em_o45 (h : ee_o45 a b n S = some S') : ee_le S S' := by
  unfold ee_o45 at h
  try simp only [Bool.cond_eq_ite, ee_f_eq] at h
  repeat' (first | (cases h; exact ⟨Nat.le_refl _, Nat.le_refl _⟩) | (cases h; done) | split at h)
theorem em_o48 (h : ee_o48 b S = some S') : ee_le S S' := by
  unfold ee_o48 at h
  try simp only [Bool.cond_eq_ite, ee_f_eq] at h
  repeat' (first | (cases h; exact ⟨Nat.le_refl _, Nat.le_refl _⟩) | (cases h; done) | split at h)
theorem em_o55 (h : ee_o55 d n S = some S') : ee_le S S' := by
  unfold ee_o55 at h
  try simp only [Bool.cond_eq_ite, ee_f_eq] at h
  repeat' (first | (cases h; exact ⟨Nat.le_refl _, Nat.le_refl _⟩) | (cases h; done) | split at h)
theorem em_o43 (h : ee_o43 d n S = some S') : ee_le S S' := by
  unfold ee_o43 at h
  split at h
  · rename_i pc' lo wn wd k1 wsp k0 st hh r'
    split at h
    · rename_i a0 a1 h0 h1
      obtain ⟨dd, hdd⟩ : ∃ z, z = Nat.sub wd.1 (nat_lit 2147483648) := ⟨_, rfl⟩
      obtain ⟨nn, hnn⟩ : ∃ z, z = Nat.sub wn.1 (nat_lit 2147483648) := ⟨_, rfl⟩
      obtain ⟨ss, hss⟩ : ∃ z, z = Nat.sub wsp.1 (nat_lit 2147483648) := ⟨_, rfl⟩
      rw [← hdd, ← hnn, ← hss] at h
      cases hc : (Nat.beq a0.1 (nat_lit 0) && (Nat.beq a1.1 (nat_lit 0) && (ee_sg wn && (ee_sg wd && (ee_sg wsp && (Nat.ble (Nat.add ss nn) a0.2.1
          && (Nat.ble (Nat.add dd nn) a1.2.1 && (Nat.blt (nat_lit 0) d && Nat.ble (ee_len st) (nat_lit 8))))))))) with
      | false => rw [ee_cf hc] at h; cases h
      | true =>
        rw [ee_ct hc] at h
        simp only [ee_f_eq] at h
        split at h
        · split at h
          · cases h; exact ⟨Nat.le_refl _, Nat.le_refl _⟩
          · cases h
        · cases h
    · cases h
  · cases h
theorem em_push {v : ee_V} (h : ee_push v n S = some S') : ee_le S S' := by
  obtain ⟨pc, lo, st, r⟩ := S
  cases h
  exact ⟨Nat.le_refl _, Nat.le_refl _⟩
theorem em_o9 (h : ee_o9 a b n S = some S') : ee_le S S' := by
  obtain ⟨pc, lo, st, r⟩ := S
  unfold ee_o9 at h
  dsimp only at h
  split at h
  · obtain ⟨rr, h1, -⟩ := ee_add_in h
    try dsimp only at h1
    split at h1
    · cases h1; exact ⟨Nat.le_refl _, Nat.le_refl _⟩
    · cases h1
  · cases h
theorem em_o10 (h10 : 10 ≤ op) (h20 : op ≤ 20) (h : ee_o10 op n S = some S') : ee_le S S' := by
  unfold ee_o10 at h
  split at h
  · obtain ⟨rr, h1, -⟩ := ee_bin_in h10 h20 h
    cases h1; exact ⟨Nat.le_refl _, Nat.le_refl _⟩
  · cases h
theorem em_o46 {z : Bool} (h : ee_o46 z b n S = some S') : ee_le S S' := by
  unfold ee_o46 at h
  split at h
  · cases z <;> (cases h; exact ⟨Nat.le_refl _, Nat.le_refl _⟩)
  · cases z <;> (cases h; exact ⟨Nat.le_refl _, Nat.le_refl _⟩)
  · cases h
theorem em_o49 {sw : Nat × Nat × List Nat} (h : ee_o49 sw S = some S') : ee_le S S' := by
  unfold ee_o49 at h
  simp only [Bool.cond_eq_ite] at h
  repeat' (first | (cases h; exact ⟨Nat.le_refl _, Nat.le_refl _⟩) | (cases h; done) | split at h)
theorem em_o50 {sw : Nat × List (Nat × Nat)} (h : ee_o50 sw S = some S') : ee_le S S' := by
  unfold ee_o50 at h
  simp only [Bool.cond_eq_ite, ee_f_eq] at h
  repeat' (first | (cases h; exact ⟨Nat.le_refl _, Nat.le_refl _⟩) | (cases h; done) | split at h)
theorem em_o35 (h : ee_o35 b n S = some S') : ee_le S S' := by
  obtain ⟨pc, lo, st, hh, c, s⟩ := S
  unfold ee_o35 at h
  dsimp only at h
  split at h
  · split at h
    · simp only [ee_f_eq] at h
      cases h
      exact ⟨Nat.le_succ _, Nat.le_add_right _ _⟩
    · cases h
  · cases h
theorem em_o36 (h : ee_o36 a n S = some S') : ee_le S S' := by
  unfold ee_o36 at h
  split at h
  · rename_i pc lo q st hh c s
    cases h1 : (Nat.ble a (nat_lit 6) && ee_ix q (nat_lit 1000000)) with
    | false => rw [ee_cf h1] at h; cases h
    | true =>
      rw [ee_ct h1, ee_f_eq] at h
      split at h
      · simp only [ee_f_eq] at h
        cases h
        exact ⟨Nat.le_succ _, Nat.le_add_right _ _⟩
      · cases h
  · cases h
theorem em_o39 {i v : Bool} (h : ee_o39 call i v b n S = some S') : ee_le S S' := by
  obtain ⟨pc, lo, st, hh, c, s⟩ := S
  obtain ⟨As, st', rv, h', c', s', -, -, -, -, rfl⟩ := ee_o39_spec h
  exact ⟨Nat.le_add_right _ _, Nat.le_add_right _ _⟩
end EMO
theorem ee_step_mono {call : Nat → List ee_V → ee_H → Option ee_R} {xt : ee_X} {d : Nat} {i : ee_I} {S S' : ee_S} (hop : i.1 ≤ 55) (h : ee_step call xt d i S = some S') : ee_le S S' := by
  obtain ⟨op, a, b, n⟩ := i
  match op, h, hop with
  | 0, h, _ => rw [ee_st0] at h; cases h
  | 1, h, _ => exact em_o1 (ee_st1.symm.trans h)
  | 2, h, _ => exact em_o2 (ee_st2.symm.trans h)
  | 3, h, _ => exact em_o3 (ee_st3.symm.trans h)
  | 4, h, _ => exact em_o4 (ee_st4.symm.trans h)
  | 5, h, _ => exact em_push (ee_st5.symm.trans h)
  | 6, h, _ => exact em_push (ee_st6.symm.trans h)
  | 7, h, _ => exact em_push (ee_st7.symm.trans h)
  | 8, h, _ => exact em_push (ee_st8.symm.trans h)
  | 9, h, _ => exact em_o9 (ee_st9.symm.trans h)
  | 10, h, _ => exact em_o10 (by decide) (by decide) (ee_st10.symm.trans h)
  | 11, h, _ => exact em_o10 (by decide) (by decide) (ee_st11.symm.trans h)
  | 12, h, _ => exact em_o10 (by decide) (by decide) (ee_st12.symm.trans h)
  | 13, h, _ => exact em_o10 (by decide) (by decide) (ee_st13.symm.trans h)
  | 14, h, _ => exact em_o10 (by decide) (by decide) (ee_st14.symm.trans h)
  | 15, h, _ => exact em_o10 (by decide) (by decide) (ee_st15.symm.trans h)
  | 16, h, _ => exact em_o10 (by decide) (by decide) (ee_st16.symm.trans h)
  | 17, h, _ => exact em_o10 (by decide) (by decide) (ee_st17.symm.trans h)
  | 18, h, _ => exact em_o10 (by decide) (by decide) (ee_st18.symm.trans h)
  | 19, h, _ => exact em_o10 (by decide) (by decide) (ee_st19.symm.trans h)
  | 20, h, _ => exact em_o10 (by decide) (by decide) (ee_st20.symm.trans h)
  | 21, h, _ => rw [ee_st21] at h; cases h
  | 22, h, _ => exact em_o22 (ee_st22.symm.trans h)
  | 23, h, _ => exact em_o23 (ee_st23.symm.trans h)
  | 24, h, _ => exact em_o24 (ee_st24.symm.trans h)
  | 25, h, _ => exact em_o25 (ee_st25.symm.trans h)
  | 26, h, _ => exact em_o26 (ee_st26.symm.trans h)
  | 27, h, _ => exact em_push (ee_st27.symm.trans h)
  | 28, h, _ => exact em_o28 (ee_st28.symm.trans h)
  | 29, h, _ => exact em_o29 (ee_st29.symm.trans h)
  | 30, h, _ => exact em_o28 (ee_st30.symm.trans h)
  | 31, h, _ => exact em_o29 (ee_st31.symm.trans h)
  | 32, h, _ => exact em_o28 (ee_st32.symm.trans h)
  | 33, h, _ => exact em_o29 (ee_st33.symm.trans h)
  | 34, h, _ => exact em_o34 (ee_st34.symm.trans h)
  | 35, h, _ => exact em_o35 (ee_st35.symm.trans h)
  | 36, h, _ => exact em_o36 (ee_st36.symm.trans h)
  | 37, h, _ => exact em_o36 (ee_st37.symm.trans h)
  | 38, h, _ => exact em_o38 (ee_st38.symm.trans h)
  | 39, h, _ => exact em_o39 (ee_st39.symm.trans h)
  | 40, h, _ => exact em_o39 (ee_st40.symm.trans h)
  | 41, h, _ => exact em_o39 (ee_st41.symm.trans h)
  | 42, h, _ => exact em_o39 (ee_st42.symm.trans h)
  | 43, h, _ => exact em_o43 (ee_st43.symm.trans h)
  | 44, h, _ => exact em_o44 (ee_st44.symm.trans h)
  | 45, h, _ => exact em_o45 (ee_st45.symm.trans h)
  | 46, h, _ => exact em_o46 (ee_st46.symm.trans h)
  | 47, h, _ => exact em_o46 (ee_st47.symm.trans h)
  | 48, h, _ => exact em_o48 (ee_st48.symm.trans h)
  | 49, h, _ => exact em_o49 (ee_st49.symm.trans h)
  | 50, h, _ => exact em_o50 (ee_st50.symm.trans h)
  | 51, h, _ => rw [ee_st51] at h; cases h
  | 52, h, _ => rw [ee_st52] at h; cases h
  | 53, h, _ => rw [ee_st53] at h; cases h
  | 54, h, _ => exact em_push (ee_st54.symm.trans h)
  | 55, h, _ => exact em_o55 (ee_st55.symm.trans h)
  | z + 56, _, hop => exact absurd hop (by show ¬ z + 56 ≤ 55; omega)
section ESS
variable {p : Program} {l : Launch} {e : Env} {R : Room} {s : State} {m : MethodId} {args : Array Value} {below : List Frame} {meth : Method} {c : Code} {Q : State → Prop} {D : va_G} {dA : Nat → ClassId} {xa : List Nat} {xt : ee_X} {B : Nat} {ad0 : List Nat} {y : Nat}
variable {pc : Nat} {r : List ee_V × List ee_V × ee_H × Nat × Nat} {S' : ee_S}
theorem ee_step_snd {d : Nat} {call : Nat → List ee_V → ee_H → Option ee_R} {i : ee_I} (hR : d ≤ R.frames ∧ 40 * d ≤ R.locals) (hcall : ee_CS l D dA xa xt B d call) (hC : ee_C p s m args meth c D dA xa xt B y) (hs : ee_sc y pc i = true) (h : ee_step call xt d i (pc, r) = some S') (hcap : S'.2.2.2.2.1 ≤ R.cells ∧ S'.2.2.2.2.2 ≤ R.slots) (k : ee_WS p l e R s m args below meth c Q D dA xa B ad0 y S') : ee_WS p l e R s m args below meth c Q D dA xa B ad0 y (pc, r) := by
  obtain ⟨-, -, -, -, -, hop⟩ := ee_sc_spec hs
  obtain ⟨op, a, b, n⟩ := i
  match op, hs, h, hop with
  | 0, hs, h, _ => rw [ee_st0] at h; cases h
  | 1, hs, h, _ => exact es_o1 hC hs (ee_st1.symm.trans h) k
  | 2, hs, h, _ => exact es_o2 hC hs (ee_st2.symm.trans h) k
  | 3, hs, h, _ => exact es_o3 hC hs (ee_st3.symm.trans h) k
  | 4, hs, h, _ => exact es_o4 hC hs (ee_st4.symm.trans h) k
  | 5, hs, h, _ => exact es_o5 hC hs (ee_st5.symm.trans h) k
  | 6, hs, h, _ => exact es_o6 hC hs (ee_st6.symm.trans h) k
  | 7, hs, h, _ => exact es_o7 hC hs (ee_st7.symm.trans h) k
  | 8, hs, h, _ => exact es_o8 hC hs (ee_st8.symm.trans h) k
  | 9, hs, h, _ => exact es_o9 hC hs (ee_st9.symm.trans h) k
  | 10, hs, h, _ => exact es_o10 (by decide) (by decide) hC hs (ee_st10.symm.trans h) k
  | 11, hs, h, _ => exact es_o10 (by decide) (by decide) hC hs (ee_st11.symm.trans h) k
  | 12, hs, h, _ => exact es_o10 (by decide) (by decide) hC hs (ee_st12.symm.trans h) k
  | 13, hs, h, _ => exact es_o10 (by decide) (by decide) hC hs (ee_st13.symm.trans h) k
  | 14, hs, h, _ => exact es_o10 (by decide) (by decide) hC hs (ee_st14.symm.trans h) k
  | 15, hs, h, _ => exact es_o10 (by decide) (by decide) hC hs (ee_st15.symm.trans h) k
  | 16, hs, h, _ => exact es_o10 (by decide) (by decide) hC hs (ee_st16.symm.trans h) k
  | 17, hs, h, _ => exact es_o10 (by decide) (by decide) hC hs (ee_st17.symm.trans h) k
  | 18, hs, h, _ => exact es_o10 (by decide) (by decide) hC hs (ee_st18.symm.trans h) k
  | 19, hs, h, _ => exact es_o10 (by decide) (by decide) hC hs (ee_st19.symm.trans h) k
  | 20, hs, h, _ => exact es_o10 (by decide) (by decide) hC hs (ee_st20.symm.trans h) k
  | 21, hs, h, _ => rw [ee_st21] at h; cases h
  | 22, hs, h, _ => exact es_o22 hC hs (ee_st22.symm.trans h) k
  | 23, hs, h, _ => exact es_o23 hC hs (ee_st23.symm.trans h) k
  | 24, hs, h, _ => exact es_o24 hC hs (ee_st24.symm.trans h) k
  | 25, hs, h, _ => exact es_o25 hC hs (ee_st25.symm.trans h) k
  | 26, hs, h, _ => exact es_o26 hC hs (ee_st26.symm.trans h) k
  | 27, hs, h, _ => exact es_o27 hC hs (ee_st27.symm.trans h) k
  | 28, hs, h, _ => exact es_o28 (by decide) hC hs (ee_st28.symm.trans h) k
  | 29, hs, h, _ => exact es_o29 (by decide) hC hs (ee_st29.symm.trans h) k
  | 30, hs, h, _ => exact es_o28 (by decide) hC hs (ee_st30.symm.trans h) k
  | 31, hs, h, _ => exact es_o29 (by decide) hC hs (ee_st31.symm.trans h) k
  | 32, hs, h, _ => exact es_o28 (by decide) hC hs (ee_st32.symm.trans h) k
  | 33, hs, h, _ => exact es_o29 (by decide) hC hs (ee_st33.symm.trans h) k
  | 34, hs, h, _ => exact es_o34 hC hs (ee_st34.symm.trans h) k
  | 35, hs, h, _ => exact es_o35 hC hs (ee_st35.symm.trans h) hcap k
  | 36, hs, h, _ => exact es_o36 hC hs (ee_st36.symm.trans h) hcap k
  | 37, hs, h, _ => exact es_o37 hC hs (ee_st37.symm.trans h) hcap k
  | 38, hs, h, _ => exact es_o38 hR hC hs (ee_st38.symm.trans h) k
  | 39, hs, h, _ => exact es_o39 (by decide) hR hcall hC hs (ee_st39.symm.trans h) hcap k
  | 40, hs, h, _ => exact es_o39 (by decide) hR hcall hC hs (ee_st40.symm.trans h) hcap k
  | 41, hs, h, _ => exact es_o39 (by decide) hR hcall hC hs (ee_st41.symm.trans h) hcap k
  | 42, hs, h, _ => exact es_o39 (by decide) hR hcall hC hs (ee_st42.symm.trans h) hcap k
  | 43, hs, h, _ => exact es_o43 hR hC hs (ee_st43.symm.trans h) k
  | 44, hs, h, _ => exact es_o44 hC hs (ee_st44.symm.trans h) k
  | 45, hs, h, _ => exact es_o45 hC hs (ee_st45.symm.trans h) k
  | 46, hs, h, _ => exact es_o46 hC hs (ee_st46.symm.trans h) k
  | 47, hs, h, _ => exact es_o47 hC hs (ee_st47.symm.trans h) k
  | 48, hs, h, _ => exact es_o48 hC hs (ee_st48.symm.trans h) k
  | 49, hs, h, _ => exact es_o49 hC hs (ee_st49.symm.trans h) k
  | 50, hs, h, _ => exact es_o50 hC hs (ee_st50.symm.trans h) k
  | 51, hs, h, _ => rw [ee_st51] at h; cases h
  | 52, hs, h, _ => rw [ee_st52] at h; cases h
  | 53, hs, h, _ => rw [ee_st53] at h; cases h
  | 54, hs, h, _ => exact es_o54 hC hs (ee_st54.symm.trans h) k
  | 55, hs, h, _ => exact es_o55 hR hC hs (ee_st55.symm.trans h) hcap k
  | z + 56, _, _, hop => exact absurd hop (by show ¬ z + 56 ≤ 55; omega)
end ESS
