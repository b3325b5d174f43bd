theorem ee_mck_e {y lo n : Nat} (h : (List.range n).all (fun y => ee_mck (lo + y)) = true) (a : lo ≤ y) (b : y < lo + n) : ee_mck y = true := by
  rw [List.all_eq_true] at h
  have := h (y - lo) (List.mem_range.mpr (by omega))
  rwa [show lo + (y - lo) = y by omega] at this
theorem ee_mck_all {y : Nat} (h1 : 1 ≤ y) (hy : y < ee_nM) : ee_mck y = true := by
  have hy : y < 270 := hy
  by_cases q0 : y < 4
  · exact ee_mck_e (lo := 1) (n := 3) ee_m0 (by omega) (by omega)
  by_cases q4 : y < 8
  · exact ee_mck_e (lo := 4) (n := 4) ee_m4 (by omega) (by omega)
  by_cases q8 : y < 12
  · exact ee_mck_e (lo := 8) (n := 4) ee_m8 (by omega) (by omega)
  by_cases q12 : y < 16
  · exact ee_mck_e (lo := 12) (n := 4) ee_m12 (by omega) (by omega)
  by_cases q16 : y < 20
  · exact ee_mck_e (lo := 16) (n := 4) ee_m16 (by omega) (by omega)
  by_cases q20 : y < 24
  · exact ee_mck_e (lo := 20) (n := 4) ee_m20 (by omega) (by omega)
  by_cases q24 : y < 28
  · exact ee_mck_e (lo := 24) (n := 4) ee_m24 (by omega) (by omega)
  by_cases q28 : y < 32
  · exact ee_mck_e (lo := 28) (n := 4) ee_m28 (by omega) (by omega)
  by_cases q32 : y < 36
  · exact ee_mck_e (lo := 32) (n := 4) ee_m32 (by omega) (by omega)
  by_cases q36 : y < 40
  · exact ee_mck_e (lo := 36) (n := 4) ee_m36 (by omega) (by omega)
  by_cases q40 : y < 44
  · exact ee_mck_e (lo := 40) (n := 4) ee_m40 (by omega) (by omega)
  by_cases q44 : y < 48
  · exact ee_mck_e (lo := 44) (n := 4) ee_m44 (by omega) (by omega)
  by_cases q48 : y < 52
  · exact ee_mck_e (lo := 48) (n := 4) ee_m48 (by omega) (by omega)
  by_cases q52 : y < 56
  · exact ee_mck_e (lo := 52) (n := 4) ee_m52 (by omega) (by omega)
  by_cases q56 : y < 60
  · exact ee_mck_e (lo := 56) (n := 4) ee_m56 (by omega) (by omega)
  by_cases q60 : y < 64
  · exact ee_mck_e (lo := 60) (n := 4) ee_m60 (by omega) (by omega)
  by_cases q64 : y < 68
  · exact ee_mck_e (lo := 64) (n := 4) ee_m64 (by omega) (by omega)
  by_cases q68 : y < 72
  · exact ee_mck_e (lo := 68) (n := 4) ee_m68 (by omega) (by omega)
  by_cases q72 : y < 76
  · exact ee_mck_e (lo := 72) (n := 4) ee_m72 (by omega) (by omega)
  by_cases q76 : y < 80
  · exact ee_mck_e (lo := 76) (n := 4) ee_m76 (by omega) (by omega)
  by_cases q80 : y < 84
  · exact ee_mck_e (lo := 80) (n := 4) ee_m80 (by omega) (by omega)
  by_cases q84 : y < 88
  · exact ee_mck_e (lo := 84) (n := 4) ee_m84 (by omega) (by omega)
  by_cases q88 : y < 92
  · exact ee_mck_e (lo := 88) (n := 4) ee_m88 (by omega) (by omega)
  by_cases q92 : y < 96
  · exact ee_mck_e (lo := 92) (n := 4) ee_m92 (by omega) (by omega)
  by_cases q96 : y < 100
  · exact ee_mck_e (lo := 96) (n := 4) ee_m96 (by omega) (by omega)
  by_cases q100 : y < 104
  · exact ee_mck_e (lo := 100) (n := 4) ee_m100 (by omega) (by omega)
  by_cases q104 : y < 108
  · exact ee_mck_e (lo := 104) (n := 4) ee_m104 (by omega) (by omega)
  by_cases q108 : y < 112
  · exact ee_mck_e (lo := 108) (n := 4) ee_m108 (by omega) (by omega)
  by_cases q112 : y < 116
  · exact ee_mck_e (lo := 112) (n := 4) ee_m112 (by omega) (by omega)
  by_cases q116 : y < 120
  · exact ee_mck_e (lo := 116) (n := 4) ee_m116 (by omega) (by omega)
  by_cases q120 : y < 124
  · exact ee_mck_e (lo := 120) (n := 4) ee_m120 (by omega) (by omega)
  by_cases q124 : y < 128
  · exact ee_mck_e (lo := 124) (n := 4) ee_m124 (by omega) (by omega)
  by_cases q128 : y < 132
  · exact ee_mck_e (lo := 128) (n := 4) ee_m128 (by omega) (by omega)
  by_cases q132 : y < 136
  · exact ee_mck_e (lo := 132) (n := 4) ee_m132 (by omega) (by omega)
  by_cases q136 : y < 140
  · exact ee_mck_e (lo := 136) (n := 4) ee_m136 (by omega) (by omega)
  by_cases q140 : y < 144
  · exact ee_mck_e (lo := 140) (n := 4) ee_m140 (by omega) (by omega)
  by_cases q144 : y < 148
  · exact ee_mck_e (lo := 144) (n := 4) ee_m144 (by omega) (by omega)
  by_cases q148 : y < 152
  · exact ee_mck_e (lo := 148) (n := 4) ee_m148 (by omega) (by omega)
  by_cases q152 : y < 156
  · exact ee_mck_e (lo := 152) (n := 4) ee_m152 (by omega) (by omega)
  by_cases q156 : y < 160
  · exact ee_mck_e (lo := 156) (n := 4) ee_m156 (by omega) (by omega)
  by_cases q160 : y < 164
  · exact ee_mck_e (lo := 160) (n := 4) ee_m160 (by omega) (by omega)
  by_cases q164 : y < 168
  · exact ee_mck_e (lo := 164) (n := 4) ee_m164 (by omega) (by omega)
  by_cases q168 : y < 172
  · exact ee_mck_e (lo := 168) (n := 4) ee_m168 (by omega) (by omega)
  by_cases q172 : y < 176
  · exact ee_mck_e (lo := 172) (n := 4) ee_m172 (by omega) (by omega)
  by_cases q176 : y < 180
  · exact ee_mck_e (lo := 176) (n := 4) ee_m176 (by omega) (by omega)
  by_cases q180 : y < 184
  · exact ee_mck_e (lo := 180) (n := 4) ee_m180 (by omega) (by omega)
  by_cases q184 : y < 188
  · exact ee_mck_e (lo := 184) (n := 4) ee_m184 (by omega) (by omega)
  by_cases q188 : y < 192
  · exact ee_mck_e (lo := 188) (n := 4) ee_m188 (by omega) (by omega)
  by_cases q192 : y < 196
  · exact ee_mck_e (lo := 192) (n := 4) ee_m192 (by omega) (by omega)
  by_cases q196 : y < 200
  · exact ee_mck_e (lo := 196) (n := 4) ee_m196 (by omega) (by omega)
  by_cases q200 : y < 204
  · exact ee_mck_e (lo := 200) (n := 4) ee_m200 (by omega) (by omega)
  by_cases q204 : y < 208
  · exact ee_mck_e (lo := 204) (n := 4) ee_m204 (by omega) (by omega)
  by_cases q208 : y < 212
  · exact ee_mck_e (lo := 208) (n := 4) ee_m208 (by omega) (by omega)
  by_cases q212 : y < 216
  · exact ee_mck_e (lo := 212) (n := 4) ee_m212 (by omega) (by omega)
  by_cases q216 : y < 220
  · exact ee_mck_e (lo := 216) (n := 4) ee_m216 (by omega) (by omega)
  by_cases q220 : y < 224
  · exact ee_mck_e (lo := 220) (n := 4) ee_m220 (by omega) (by omega)
  by_cases q224 : y < 228
  · exact ee_mck_e (lo := 224) (n := 4) ee_m224 (by omega) (by omega)
  by_cases q228 : y < 232
  · exact ee_mck_e (lo := 228) (n := 4) ee_m228 (by omega) (by omega)
  by_cases q232 : y < 236
  · exact ee_mck_e (lo := 232) (n := 4) ee_m232 (by omega) (by omega)
  by_cases q236 : y < 240
  · exact ee_mck_e (lo := 236) (n := 4) ee_m236 (by omega) (by omega)
  by_cases q240 : y < 244
  · exact ee_mck_e (lo := 240) (n := 4) ee_m240 (by omega) (by omega)
  by_cases q244 : y < 248
  · exact ee_mck_e (lo := 244) (n := 4) ee_m244 (by omega) (by omega)
  by_cases q248 : y < 252
  · exact ee_mck_e (lo := 248) (n := 4) ee_m248 (by omega) (by omega)
  by_cases q252 : y < 256
  · exact ee_mck_e (lo := 252) (n := 4) ee_m252 (by omega) (by omega)
  by_cases q256 : y < 260
  · exact ee_mck_e (lo := 256) (n := 4) ee_m256 (by omega) (by omega)
  by_cases q260 : y < 264
  · exact ee_mck_e (lo := 260) (n := 4) ee_m260 (by omega) (by omega)
  by_cases q264 : y < 268
  · exact ee_mck_e (lo := 264) (n := 4) ee_m264 (by omega) (by omega)
  by_cases q268 : y < 270
  · exact ee_mck_e (lo := 268) (n := 2) ee_m268 (by omega) (by omega)
  omega
