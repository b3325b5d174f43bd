theorem ee_sl20 : ∀ y, y < 20 → ee_scr y 0 1100 = true := lt_s (lt_s (lt_s (lt_s (lt_s (lt_s (lt_s (lt_s (lt_s (lt_s (lt_s (lt_s (lt_s (lt_s (lt_s (lt_s (lt_s (lt_s (lt_s (lt_s (lt_0) ee_s0) ee_s1) ee_s2) ee_s3) ee_s4) ee_s5) ee_s6) ee_s7) ee_s8) ee_s9) ee_s10) ee_s11) ee_s12) ee_s13) ee_s14) ee_s15) ee_s16) ee_s17) ee_s18) ee_s19
theorem ee_sl40 : ∀ y, y < 40 → ee_scr y 0 1100 = true := lt_s (lt_s (lt_s (lt_s (lt_s (lt_s (lt_s (lt_s (lt_s (lt_s (lt_s (lt_s (lt_s (lt_s (lt_s (lt_s (lt_s (lt_s (lt_s (lt_s (ee_sl20) ee_s20) ee_s21) ee_s22) ee_s23) ee_s24) ee_s25) ee_s26) ee_s27) ee_s28) ee_s29) ee_s30) ee_s31) ee_s32) ee_s33) ee_s34) ee_s35) ee_s36) ee_s37) ee_s38) ee_s39
theorem ee_sl60 : ∀ y, y < 60 → ee_scr y 0 1100 = true := lt_s (lt_s (lt_s (lt_s (lt_s (lt_s (lt_s (lt_s (lt_s (lt_s (lt_s (lt_s (lt_s (lt_s (lt_s (lt_s (lt_s (lt_s (lt_s (lt_s (ee_sl40) ee_s40) ee_s41) ee_s42) ee_s43) ee_s44) ee_s45) ee_s46) ee_s47) ee_s48) ee_s49) ee_s50) ee_s51) ee_s52) ee_s53) ee_s54) ee_s55) ee_s56) ee_s57) ee_s58) ee_s59
theorem ee_sl80 : ∀ y, y < 80 → ee_scr y 0 1100 = true := lt_s (lt_s (lt_s (lt_s (lt_s (lt_s (lt_s (lt_s (lt_s (lt_s (lt_s (lt_s (lt_s (lt_s (lt_s (lt_s (lt_s (lt_s (lt_s (lt_s (ee_sl60) ee_s60) ee_s61) ee_s62) ee_s63) ee_s64) ee_s65) ee_s66) ee_s67) ee_s68) ee_s69) ee_s70) ee_s71) ee_s72) ee_s73) ee_s74) ee_s75) ee_s76) ee_s77) ee_s78) ee_s79
theorem ee_sl100 : ∀ y, y < 100 → ee_scr y 0 1100 = true := lt_s (lt_s (lt_s (lt_s (lt_s (lt_s (lt_s (lt_s (lt_s (lt_s (lt_s (lt_s (lt_s (lt_s (lt_s (lt_s (lt_s (lt_s (lt_s (lt_s (ee_sl80) ee_s80) ee_s81) ee_s82) ee_s83) ee_s84) ee_s85) ee_s86) ee_s87) ee_s88) ee_s89) ee_s90) ee_s91) ee_s92) ee_s93) ee_s94) ee_s95) ee_s96) ee_s97) ee_s98) ee_s99
theorem ee_sl120 : ∀ y, y < 120 → ee_scr y 0 1100 = true := lt_s (lt_s (lt_s (lt_s (lt_s (lt_s (lt_s (lt_s (lt_s (lt_s (lt_s (lt_s (lt_s (lt_s (lt_s (lt_s (lt_s (lt_s (lt_s (lt_s (ee_sl100) ee_s100) ee_s101) ee_s102) ee_s103) ee_s104) ee_s105) ee_s106) ee_s107) ee_s108) ee_s109) ee_s110) ee_s111) ee_s112) ee_s113) ee_s114) ee_s115) ee_s116) ee_s117) ee_s118) ee_s119
theorem ee_sl140 : ∀ y, y < 140 → ee_scr y 0 1100 = true := lt_s (lt_s (lt_s (lt_s (lt_s (lt_s (lt_s (lt_s (lt_s (lt_s (lt_s (lt_s (lt_s (lt_s (lt_s (lt_s (lt_s (lt_s (lt_s (lt_s (ee_sl120) ee_s120) ee_s121) ee_s122) ee_s123) ee_s124) ee_s125) ee_s126) ee_s127) ee_s128) ee_s129) ee_s130) ee_s131) ee_s132) ee_s133) ee_s134) ee_s135) ee_s136) ee_s137) ee_s138) ee_s139
theorem ee_sl160 : ∀ y, y < 160 → ee_scr y 0 1100 = true := lt_s (lt_s (lt_s (lt_s (lt_s (lt_s (lt_s (lt_s (lt_s (lt_s (lt_s (lt_s (lt_s (lt_s (lt_s (lt_s (lt_s (lt_s (lt_s (lt_s (ee_sl140) ee_s140) ee_s141) ee_s142) ee_s143) ee_s144) ee_s145) ee_s146) ee_s147) ee_s148) ee_s149) ee_s150) ee_s151) ee_s152) ee_s153) ee_s154) ee_s155) ee_s156) ee_s157) ee_s158) ee_s159
theorem ee_sl180 : ∀ y, y < 180 → ee_scr y 0 1100 = true := lt_s (lt_s (lt_s (lt_s (lt_s (lt_s (lt_s (lt_s (lt_s (lt_s (lt_s (lt_s (lt_s (lt_s (lt_s (lt_s (lt_s (lt_s (lt_s (lt_s (ee_sl160) ee_s160) ee_s161) ee_s162) ee_s163) ee_s164) ee_s165) ee_s166) ee_s167) ee_s168) ee_s169) ee_s170) ee_s171) ee_s172) ee_s173) ee_s174) ee_s175) ee_s176) ee_s177) ee_s178) ee_s179
theorem ee_sl200 : ∀ y, y < 200 → ee_scr y 0 1100 = true := lt_s (lt_s (lt_s (lt_s (lt_s (lt_s (lt_s (lt_s (lt_s (lt_s (lt_s (lt_s (lt_s (lt_s (lt_s (lt_s (lt_s (lt_s (lt_s (lt_s (ee_sl180) ee_s180) ee_s181) ee_s182) ee_s183) ee_s184) ee_s185) ee_s186) ee_s187) ee_s188) ee_s189) ee_s190) ee_s191) ee_s192) ee_s193) ee_s194) ee_s195) ee_s196) ee_s197) ee_s198) ee_s199
theorem ee_sl220 : ∀ y, y < 220 → ee_scr y 0 1100 = true := lt_s (lt_s (lt_s (lt_s (lt_s (lt_s (lt_s (lt_s (lt_s (lt_s (lt_s (lt_s (lt_s (lt_s (lt_s (lt_s (lt_s (lt_s (lt_s (lt_s (ee_sl200) ee_s200) ee_s201) ee_s202) ee_s203) ee_s204) ee_s205) ee_s206) ee_s207) ee_s208) ee_s209) ee_s210) ee_s211) ee_s212) ee_s213) ee_s214) ee_s215) ee_s216) ee_s217) ee_s218) ee_s219
theorem ee_sl240 : ∀ y, y < 240 → ee_scr y 0 1100 = true := lt_s (lt_s (lt_s (lt_s (lt_s (lt_s (lt_s (lt_s (lt_s (lt_s (lt_s (lt_s (lt_s (lt_s (lt_s (lt_s (lt_s (lt_s (lt_s (lt_s (ee_sl220) ee_s220) ee_s221) ee_s222) ee_s223) ee_s224) ee_s225) ee_s226) ee_s227) ee_s228) ee_s229) ee_s230) ee_s231) ee_s232) ee_s233) ee_s234) ee_s235) ee_s236) ee_s237) ee_s238) ee_s239
theorem ee_sl260 : ∀ y, y < 260 → ee_scr y 0 1100 = true := lt_s (lt_s (lt_s (lt_s (lt_s (lt_s (lt_s (lt_s (lt_s (lt_s (lt_s (lt_s (lt_s (lt_s (lt_s (lt_s (lt_s (lt_s (lt_s (lt_s (ee_sl240) ee_s240) ee_s241) ee_s242) ee_s243) ee_s244) ee_s245) ee_s246) ee_s247) ee_s248) ee_s249) ee_s250) ee_s251) ee_s252) ee_s253) ee_s254) ee_s255) ee_s256) ee_s257) ee_s258) ee_s259
theorem ee_sl270 : ∀ y, y < 270 → ee_scr y 0 1100 = true := lt_s (lt_s (lt_s (lt_s (lt_s (lt_s (lt_s (lt_s (lt_s (lt_s (ee_sl260) ee_s260) ee_s261) ee_s262) ee_s263) ee_s264) ee_s265) ee_s266) ee_s267) ee_s268) ee_s269
theorem ee_sc_all {y pc : Nat} {i : ee_I} (hy : y < ee_nM) (hpc : pc < 1100) (hi : ee_pg y pc = some i) : ee_sc y pc i = true := ee_scr_at (ee_sl270 y hy) (Nat.zero_le _) (by omega) hi
theorem ee_r0 : (List.range ee_nA).all (fun a => ee_rck 0 a) = true := by decide +kernel
theorem ee_r1 : (List.range ee_nA).all (fun a => ee_rck 1 a) = true := by decide +kernel
theorem ee_r2 : (List.range ee_nA).all (fun a => ee_rck 2 a) = true := by decide +kernel
theorem ee_r3 : (List.range ee_nA).all (fun a => ee_rck 3 a) = true := by decide +kernel
theorem ee_r4 : (List.range ee_nA).all (fun a => ee_rck 4 a) = true := by decide +kernel
theorem ee_r5 : (List.range ee_nA).all (fun a => ee_rck 5 a) = true := by decide +kernel
theorem ee_r6 : (List.range ee_nA).all (fun a => ee_rck 6 a) = true := by decide +kernel
theorem ee_r7 : (List.range ee_nA).all (fun a => ee_rck 7 a) = true := by decide +kernel
theorem ee_r8 : (List.range ee_nA).all (fun a => ee_rck 8 a) = true := by decide +kernel
theorem ee_r9 : (List.range ee_nA).all (fun a => ee_rck 9 a) = true := by decide +kernel
theorem ee_r10 : (List.range ee_nA).all (fun a => ee_rck 10 a) = true := by decide +kernel
theorem ee_r11 : (List.range ee_nA).all (fun a => ee_rck 11 a) = true := by decide +kernel
theorem ee_r12 : (List.range ee_nA).all (fun a => ee_rck 12 a) = true := by decide +kernel
theorem ee_r13 : (List.range ee_nA).all (fun a => ee_rck 13 a) = true := by decide +kernel
theorem ee_r14 : (List.range ee_nA).all (fun a => ee_rck 14 a) = true := by decide +kernel
theorem ee_r15 : (List.range ee_nA).all (fun a => ee_rck 15 a) = true := by decide +kernel
theorem ee_rl : ∀ c, c < ee_nO → (List.range ee_nA).all (fun a => ee_rck c a) = true := lt_s (lt_s (lt_s (lt_s (lt_s (lt_s (lt_s (lt_s (lt_s (lt_s (lt_s (lt_s (lt_s (lt_s (lt_s (lt_s (lt_0) ee_r0) ee_r1) ee_r2) ee_r3) ee_r4) ee_r5) ee_r6) ee_r7) ee_r8) ee_r9) ee_r10) ee_r11) ee_r12) ee_r13) ee_r14) ee_r15
theorem ee_m0 : (List.range 11).all (fun y => ee_mck (1 + y)) = true := by decide +kernel
theorem ee_m12 : (List.range 12).all (fun y => ee_mck (12 + y)) = true := by decide +kernel
theorem ee_m24 : (List.range 12).all (fun y => ee_mck (24 + y)) = true := by decide +kernel
theorem ee_m36 : (List.range 12).all (fun y => ee_mck (36 + y)) = true := by decide +kernel
theorem ee_m48 : (List.range 12).all (fun y => ee_mck (48 + y)) = true := by decide +kernel
theorem ee_m60 : (List.range 12).all (fun y => ee_mck (60 + y)) = true := by decide +kernel
theorem ee_m72 : (List.range 12).all (fun y => ee_mck (72 + y)) = true := by decide +kernel
theorem ee_m84 : (List.range 12).all (fun y => ee_mck (84 + y)) = true := by decide +kernel
theorem ee_m96 : (List.range 12).all (fun y => ee_mck (96 + y)) = true := by decide +kernel
theorem ee_m108 : (List.range 12).all (fun y => ee_mck (108 + y)) = true := by decide +kernel
theorem ee_m120 : (List.range 12).all (fun y => ee_mck (120 + y)) = true := by decide +kernel
theorem ee_m132 : (List.range 12).all (fun y => ee_mck (132 + y)) = true := by decide +kernel
theorem ee_m144 : (List.range 12).all (fun y => ee_mck (144 + y)) = true := by decide +kernel
theorem ee_m156 : (List.range 12).all (fun y => ee_mck (156 + y)) = true := by decide +kernel
theorem ee_m168 : (List.range 12).all (fun y => ee_mck (168 + y)) = true := by decide +kernel
theorem ee_m180 : (List.range 12).all (fun y => ee_mck (180 + y)) = true := by decide +kernel
theorem ee_m192 : (List.range 12).all (fun y => ee_mck (192 + y)) = true := by decide +kernel
theorem ee_m204 : (List.range 12).all (fun y => ee_mck (204 + y)) = true := by decide +kernel
theorem ee_m216 : (List.range 12).all (fun y => ee_mck (216 + y)) = true := by decide +kernel
theorem ee_m228 : (List.range 12).all (fun y => ee_mck (228 + y)) = true := by decide +kernel
theorem ee_m240 : (List.range 12).all (fun y => ee_mck (240 + y)) = true := by decide +kernel
theorem ee_m252 : (List.range 12).all (fun y => ee_mck (252 + y)) = true := by decide +kernel
theorem ee_m264 : (List.range 6).all (fun y => ee_mck (264 + y)) = true := by decide +kernel
theorem ee_mck_all {y : Nat} (h1 : 1 ≤ y) (hy : y < ee_nM) : ee_mck y = true := by
  have e : ∀ lo n, (List.range n).all (fun y => ee_mck (lo + y)) = true → lo ≤ y → y < lo + n → ee_mck y = true := by
    intro lo n h a b
    rw [List.all_eq_true] at h
    have := h (y - lo) (List.mem_range.mpr (by omega))
    rwa [show lo + (y - lo) = y by omega] at this
  have hy : y < 270 := hy
  by_cases q0 : y < 12
  · exact e 1 11 ee_m0 (by omega) (by omega)
  by_cases q12 : y < 24
  · exact e 12 12 ee_m12 (by omega) (by omega)
  by_cases q24 : y < 36
  · exact e 24 12 ee_m24 (by omega) (by omega)
  by_cases q36 : y < 48
  · exact e 36 12 ee_m36 (by omega) (by omega)
  by_cases q48 : y < 60
  · exact e 48 12 ee_m48 (by omega) (by omega)
  by_cases q60 : y < 72
  · exact e 60 12 ee_m60 (by omega) (by omega)
  by_cases q72 : y < 84
  · exact e 72 12 ee_m72 (by omega) (by omega)
  by_cases q84 : y < 96
  · exact e 84 12 ee_m84 (by omega) (by omega)
  by_cases q96 : y < 108
  · exact e 96 12 ee_m96 (by omega) (by omega)
  by_cases q108 : y < 120
  · exact e 108 12 ee_m108 (by omega) (by omega)
  by_cases q120 : y < 132
  · exact e 120 12 ee_m120 (by omega) (by omega)
  by_cases q132 : y < 144
  · exact e 132 12 ee_m132 (by omega) (by omega)
  by_cases q144 : y < 156
  · exact e 144 12 ee_m144 (by omega) (by omega)
  by_cases q156 : y < 168
  · exact e 156 12 ee_m156 (by omega) (by omega)
  by_cases q168 : y < 180
  · exact e 168 12 ee_m168 (by omega) (by omega)
  by_cases q180 : y < 192
  · exact e 180 12 ee_m180 (by omega) (by omega)
  by_cases q192 : y < 204
  · exact e 192 12 ee_m192 (by omega) (by omega)
  by_cases q204 : y < 216
  · exact e 204 12 ee_m204 (by omega) (by omega)
  by_cases q216 : y < 228
  · exact e 216 12 ee_m216 (by omega) (by omega)
  by_cases q228 : y < 240
  · exact e 228 12 ee_m228 (by omega) (by omega)
  by_cases q240 : y < 252
  · exact e 240 12 ee_m240 (by omega) (by omega)
  by_cases q252 : y < 264
  · exact e 252 12 ee_m252 (by omega) (by omega)
  by_cases q264 : y < 270
  · exact e 264 6 ee_m264 (by omega) (by omega)
  omega
