theorem ee_s62_0 : ee_scr 62 0 1100 = true := by decide +kernel
theorem ee_s62 : ee_scr 62 0 1100 = true := ee_s62_0
theorem ee_s63_0 : ee_scr 63 0 1100 = true := by decide +kernel
theorem ee_s63 : ee_scr 63 0 1100 = true := ee_s63_0
theorem ee_s64_0 : ee_scr 64 0 1100 = true := by decide +kernel
theorem ee_s64 : ee_scr 64 0 1100 = true := ee_s64_0
theorem ee_s65_0 : ee_scr 65 0 1100 = true := by decide +kernel
theorem ee_s65 : ee_scr 65 0 1100 = true := ee_s65_0
theorem ee_s66_0 : ee_scr 66 0 1100 = true := by decide +kernel
theorem ee_s66 : ee_scr 66 0 1100 = true := ee_s66_0
theorem ee_s67_0 : ee_scr 67 0 1100 = true := by decide +kernel
theorem ee_s67 : ee_scr 67 0 1100 = true := ee_s67_0
theorem ee_s68_0 : ee_scr 68 0 1100 = true := by decide +kernel
theorem ee_s68 : ee_scr 68 0 1100 = true := ee_s68_0
theorem ee_s69_0 : ee_scr 69 0 1100 = true := by decide +kernel
theorem ee_s69 : ee_scr 69 0 1100 = true := ee_s69_0
theorem ee_s70_0 : ee_scr 70 0 1100 = true := by decide +kernel
theorem ee_s70 : ee_scr 70 0 1100 = true := ee_s70_0
theorem ee_s71_0 : ee_scr 71 0 1100 = true := by decide +kernel
theorem ee_s71 : ee_scr 71 0 1100 = true := ee_s71_0
theorem ee_s72_0 : ee_scr 72 0 1100 = true := by decide +kernel
theorem ee_s72 : ee_scr 72 0 1100 = true := ee_s72_0
theorem ee_s73_0 : ee_scr 73 0 1100 = true := by decide +kernel
theorem ee_s73 : ee_scr 73 0 1100 = true := ee_s73_0
theorem ee_s74_0 : ee_scr 74 0 1100 = true := by decide +kernel
theorem ee_s74 : ee_scr 74 0 1100 = true := ee_s74_0
theorem ee_s75_0 : ee_scr 75 0 1100 = true := by decide +kernel
theorem ee_s75 : ee_scr 75 0 1100 = true := ee_s75_0
theorem ee_s76_0 : ee_scr 76 0 1100 = true := by decide +kernel
theorem ee_s76 : ee_scr 76 0 1100 = true := ee_s76_0
theorem ee_s77_0 : ee_scr 77 0 1100 = true := by decide +kernel
theorem ee_s77 : ee_scr 77 0 1100 = true := ee_s77_0
theorem ee_s78_0 : ee_scr 78 0 1100 = true := by decide +kernel
theorem ee_s78 : ee_scr 78 0 1100 = true := ee_s78_0
theorem ee_s79_0 : ee_scr 79 0 1100 = true := by decide +kernel
theorem ee_s79 : ee_scr 79 0 1100 = true := ee_s79_0
theorem ee_s80_0 : ee_scr 80 0 1100 = true := by decide +kernel
theorem ee_s80 : ee_scr 80 0 1100 = true := ee_s80_0
theorem ee_s81_0 : ee_scr 81 0 1100 = true := by decide +kernel
theorem ee_s81 : ee_scr 81 0 1100 = true := ee_s81_0
theorem ee_s82_0 : ee_scr 82 0 1100 = true := by decide +kernel
theorem ee_s82 : ee_scr 82 0 1100 = true := ee_s82_0
theorem ee_s83_0 : ee_scr 83 0 200 = true := by decide +kernel
theorem ee_s83_1 : ee_scr 83 200 900 = true := by decide +kernel
theorem ee_t83_1 : ee_scr 83 0 1100 = true := @ee_scr_app 83 0 200 900 ee_s83_0 ee_s83_1
theorem ee_s83 : ee_scr 83 0 1100 = true := ee_t83_1
theorem ee_s84_0 : ee_scr 84 0 1100 = true := by decide +kernel
theorem ee_s84 : ee_scr 84 0 1100 = true := ee_s84_0
theorem ee_s85_0 : ee_scr 85 0 1100 = true := by decide +kernel
theorem ee_s85 : ee_scr 85 0 1100 = true := ee_s85_0
theorem ee_s86_0 : ee_scr 86 0 1100 = true := by decide +kernel
theorem ee_s86 : ee_scr 86 0 1100 = true := ee_s86_0
theorem ee_s87_0 : ee_scr 87 0 1100 = true := by decide +kernel
theorem ee_s87 : ee_scr 87 0 1100 = true := ee_s87_0
theorem ee_s88_0 : ee_scr 88 0 1100 = true := by decide +kernel
theorem ee_s88 : ee_scr 88 0 1100 = true := ee_s88_0
theorem ee_s89_0 : ee_scr 89 0 1100 = true := by decide +kernel
theorem ee_s89 : ee_scr 89 0 1100 = true := ee_s89_0
theorem ee_s90_0 : ee_scr 90 0 1100 = true := by decide +kernel
theorem ee_s90 : ee_scr 90 0 1100 = true := ee_s90_0
theorem ee_s91_0 : ee_scr 91 0 1100 = true := by decide +kernel
theorem ee_s91 : ee_scr 91 0 1100 = true := ee_s91_0
theorem ee_s92_0 : ee_scr 92 0 1100 = true := by decide +kernel
theorem ee_s92 : ee_scr 92 0 1100 = true := ee_s92_0
theorem ee_s93_0 : ee_scr 93 0 1100 = true := by decide +kernel
theorem ee_s93 : ee_scr 93 0 1100 = true := ee_s93_0
theorem ee_s94_0 : ee_scr 94 0 1100 = true := by decide +kernel
theorem ee_s94 : ee_scr 94 0 1100 = true := ee_s94_0
theorem ee_s95_0 : ee_scr 95 0 1100 = true := by decide +kernel
theorem ee_s95 : ee_scr 95 0 1100 = true := ee_s95_0
theorem ee_s96_0 : ee_scr 96 0 1100 = true := by decide +kernel
theorem ee_s96 : ee_scr 96 0 1100 = true := ee_s96_0
theorem ee_s97_0 : ee_scr 97 0 1100 = true := by decide +kernel
theorem ee_s97 : ee_scr 97 0 1100 = true := ee_s97_0
theorem ee_s98_0 : ee_scr 98 0 1100 = true := by decide +kernel
theorem ee_s98 : ee_scr 98 0 1100 = true := ee_s98_0
theorem ee_s99_0 : ee_scr 99 0 1100 = true := by decide +kernel
theorem ee_s99 : ee_scr 99 0 1100 = true := ee_s99_0
theorem ee_s100_0 : ee_scr 100 0 1100 = true := by decide +kernel
theorem ee_s100 : ee_scr 100 0 1100 = true := ee_s100_0
theorem ee_s101_0 : ee_scr 101 0 1100 = true := by decide +kernel
theorem ee_s101 : ee_scr 101 0 1100 = true := ee_s101_0
theorem ee_s102_0 : ee_scr 102 0 1100 = true := by decide +kernel
theorem ee_s102 : ee_scr 102 0 1100 = true := ee_s102_0
theorem ee_s103_0 : ee_scr 103 0 1100 = true := by decide +kernel
theorem ee_s103 : ee_scr 103 0 1100 = true := ee_s103_0
theorem ee_s104_0 : ee_scr 104 0 1100 = true := by decide +kernel
theorem ee_s104 : ee_scr 104 0 1100 = true := ee_s104_0
