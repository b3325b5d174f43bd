theorem ee_s21_0 : ee_scr 21 0 1100 = true := by decide +kernel
theorem ee_s21 : ee_scr 21 0 1100 = true := ee_s21_0
theorem ee_s22_0 : ee_scr 22 0 1100 = true := by decide +kernel
theorem ee_s22 : ee_scr 22 0 1100 = true := ee_s22_0
theorem ee_s23_0 : ee_scr 23 0 1100 = true := by decide +kernel
theorem ee_s23 : ee_scr 23 0 1100 = true := ee_s23_0
theorem ee_s24_0 : ee_scr 24 0 1100 = true := by decide +kernel
theorem ee_s24 : ee_scr 24 0 1100 = true := ee_s24_0
theorem ee_s25_0 : ee_scr 25 0 1100 = true := by decide +kernel
theorem ee_s25 : ee_scr 25 0 1100 = true := ee_s25_0
theorem ee_s26_0 : ee_scr 26 0 1100 = true := by decide +kernel
theorem ee_s26 : ee_scr 26 0 1100 = true := ee_s26_0
theorem ee_s27_0 : ee_scr 27 0 1100 = true := by decide +kernel
theorem ee_s27 : ee_scr 27 0 1100 = true := ee_s27_0
theorem ee_s28_0 : ee_scr 28 0 1100 = true := by decide +kernel
theorem ee_s28 : ee_scr 28 0 1100 = true := ee_s28_0
theorem ee_s29_0 : ee_scr 29 0 1100 = true := by decide +kernel
theorem ee_s29 : ee_scr 29 0 1100 = true := ee_s29_0
theorem ee_s30_0 : ee_scr 30 0 1100 = true := by decide +kernel
theorem ee_s30 : ee_scr 30 0 1100 = true := ee_s30_0
theorem ee_s31_0 : ee_scr 31 0 1100 = true := by decide +kernel
theorem ee_s31 : ee_scr 31 0 1100 = true := ee_s31_0
theorem ee_s32_0 : ee_scr 32 0 1100 = true := by decide +kernel
theorem ee_s32 : ee_scr 32 0 1100 = true := ee_s32_0
theorem ee_s33_0 : ee_scr 33 0 1100 = true := by decide +kernel
theorem ee_s33 : ee_scr 33 0 1100 = true := ee_s33_0
theorem ee_s34_0 : ee_scr 34 0 1100 = true := by decide +kernel
theorem ee_s34 : ee_scr 34 0 1100 = true := ee_s34_0
theorem ee_s35_0 : ee_scr 35 0 1100 = true := by decide +kernel
theorem ee_s35 : ee_scr 35 0 1100 = true := ee_s35_0
theorem ee_s36_0 : ee_scr 36 0 1100 = true := by decide +kernel
theorem ee_s36 : ee_scr 36 0 1100 = true := ee_s36_0
theorem ee_s37_0 : ee_scr 37 0 1100 = true := by decide +kernel
theorem ee_s37 : ee_scr 37 0 1100 = true := ee_s37_0
theorem ee_s38_0 : ee_scr 38 0 1100 = true := by decide +kernel
theorem ee_s38 : ee_scr 38 0 1100 = true := ee_s38_0
theorem ee_s39_0 : ee_scr 39 0 1100 = true := by decide +kernel
theorem ee_s39 : ee_scr 39 0 1100 = true := ee_s39_0
theorem ee_s40_0 : ee_scr 40 0 1100 = true := by decide +kernel
theorem ee_s40 : ee_scr 40 0 1100 = true := ee_s40_0
theorem ee_s41_0 : ee_scr 41 0 1100 = true := by decide +kernel
theorem ee_s41 : ee_scr 41 0 1100 = true := ee_s41_0
theorem ee_s42_0 : ee_scr 42 0 1100 = true := by decide +kernel
theorem ee_s42 : ee_scr 42 0 1100 = true := ee_s42_0
theorem ee_s43_0 : ee_scr 43 0 1100 = true := by decide +kernel
theorem ee_s43 : ee_scr 43 0 1100 = true := ee_s43_0
theorem ee_s44_0 : ee_scr 44 0 1100 = true := by decide +kernel
theorem ee_s44 : ee_scr 44 0 1100 = true := ee_s44_0
theorem ee_s45_0 : ee_scr 45 0 1100 = true := by decide +kernel
theorem ee_s45 : ee_scr 45 0 1100 = true := ee_s45_0
theorem ee_s46_0 : ee_scr 46 0 1100 = true := by decide +kernel
theorem ee_s46 : ee_scr 46 0 1100 = true := ee_s46_0
theorem ee_s47_0 : ee_scr 47 0 1100 = true := by decide +kernel
theorem ee_s47 : ee_scr 47 0 1100 = true := ee_s47_0
theorem ee_s48_0 : ee_scr 48 0 1100 = true := by decide +kernel
theorem ee_s48 : ee_scr 48 0 1100 = true := ee_s48_0
theorem ee_s49_0 : ee_scr 49 0 1100 = true := by decide +kernel
theorem ee_s49 : ee_scr 49 0 1100 = true := ee_s49_0
theorem ee_s50_0 : ee_scr 50 0 1100 = true := by decide +kernel
theorem ee_s50 : ee_scr 50 0 1100 = true := ee_s50_0
theorem ee_s51_0 : ee_scr 51 0 1100 = true := by decide +kernel
theorem ee_s51 : ee_scr 51 0 1100 = true := ee_s51_0
theorem ee_s52_0 : ee_scr 52 0 1100 = true := by decide +kernel
theorem ee_s52 : ee_scr 52 0 1100 = true := ee_s52_0
theorem ee_s53_0 : ee_scr 53 0 1100 = true := by decide +kernel
theorem ee_s53 : ee_scr 53 0 1100 = true := ee_s53_0
theorem ee_s54_0 : ee_scr 54 0 1100 = true := by decide +kernel
theorem ee_s54 : ee_scr 54 0 1100 = true := ee_s54_0
theorem ee_s55_0 : ee_scr 55 0 1100 = true := by decide +kernel
theorem ee_s55 : ee_scr 55 0 1100 = true := ee_s55_0
theorem ee_s56_0 : ee_scr 56 0 1100 = true := by decide +kernel
theorem ee_s56 : ee_scr 56 0 1100 = true := ee_s56_0
theorem ee_s57_0 : ee_scr 57 0 1100 = true := by decide +kernel
theorem ee_s57 : ee_scr 57 0 1100 = true := ee_s57_0
theorem ee_s58_0 : ee_scr 58 0 1100 = true := by decide +kernel
theorem ee_s58 : ee_scr 58 0 1100 = true := ee_s58_0
theorem ee_s59_0 : ee_scr 59 0 1100 = true := by decide +kernel
theorem ee_s59 : ee_scr 59 0 1100 = true := ee_s59_0
theorem ee_s60_0 : ee_scr 60 0 1100 = true := by decide +kernel
theorem ee_s60 : ee_scr 60 0 1100 = true := ee_s60_0
theorem ee_s61_0 : ee_scr 61 0 1100 = true := by decide +kernel
theorem ee_s61 : ee_scr 61 0 1100 = true := ee_s61_0
