theorem ee_s0_0 : ee_scr 0 0 100 = true := by decide +kernel
theorem ee_s0_1 : ee_scr 0 100 100 = true := by decide +kernel
theorem ee_s0_2 : ee_scr 0 200 100 = true := by decide +kernel
theorem ee_s0_3 : ee_scr 0 300 100 = true := by decide +kernel
theorem ee_s0_4 : ee_scr 0 400 100 = true := by decide +kernel
theorem ee_s0_5 : ee_scr 0 500 100 = true := by decide +kernel
theorem ee_s0_6 : ee_scr 0 600 100 = true := by decide +kernel
theorem ee_s0_7 : ee_scr 0 700 100 = true := by decide +kernel
theorem ee_s0_8 : ee_scr 0 800 100 = true := by decide +kernel
theorem ee_s0_9 : ee_scr 0 900 100 = true := by decide +kernel
theorem ee_s0_10 : ee_scr 0 1000 100 = true := by decide +kernel
theorem ee_t0_1 : ee_scr 0 0 200 = true := @ee_scr_app 0 0 100 100 ee_s0_0 ee_s0_1
theorem ee_t0_2 : ee_scr 0 0 300 = true := @ee_scr_app 0 0 200 100 ee_t0_1 ee_s0_2
theorem ee_t0_3 : ee_scr 0 0 400 = true := @ee_scr_app 0 0 300 100 ee_t0_2 ee_s0_3
theorem ee_t0_4 : ee_scr 0 0 500 = true := @ee_scr_app 0 0 400 100 ee_t0_3 ee_s0_4
theorem ee_t0_5 : ee_scr 0 0 600 = true := @ee_scr_app 0 0 500 100 ee_t0_4 ee_s0_5
theorem ee_t0_6 : ee_scr 0 0 700 = true := @ee_scr_app 0 0 600 100 ee_t0_5 ee_s0_6
theorem ee_t0_7 : ee_scr 0 0 800 = true := @ee_scr_app 0 0 700 100 ee_t0_6 ee_s0_7
theorem ee_t0_8 : ee_scr 0 0 900 = true := @ee_scr_app 0 0 800 100 ee_t0_7 ee_s0_8
theorem ee_t0_9 : ee_scr 0 0 1000 = true := @ee_scr_app 0 0 900 100 ee_t0_8 ee_s0_9
theorem ee_t0_10 : ee_scr 0 0 1100 = true := @ee_scr_app 0 0 1000 100 ee_t0_9 ee_s0_10
theorem ee_s0 : ee_scr 0 0 1100 = true := ee_t0_10
theorem ee_s1_0 : ee_scr 1 0 1100 = true := by decide +kernel
theorem ee_s1 : ee_scr 1 0 1100 = true := ee_s1_0
theorem ee_s2_0 : ee_scr 2 0 1100 = true := by decide +kernel
theorem ee_s2 : ee_scr 2 0 1100 = true := ee_s2_0
theorem ee_s3_0 : ee_scr 3 0 1100 = true := by decide +kernel
theorem ee_s3 : ee_scr 3 0 1100 = true := ee_s3_0
theorem ee_s4_0 : ee_scr 4 0 1100 = true := by decide +kernel
theorem ee_s4 : ee_scr 4 0 1100 = true := ee_s4_0
theorem ee_s5_0 : ee_scr 5 0 1100 = true := by decide +kernel
theorem ee_s5 : ee_scr 5 0 1100 = true := ee_s5_0
theorem ee_s6_0 : ee_scr 6 0 1100 = true := by decide +kernel
theorem ee_s6 : ee_scr 6 0 1100 = true := ee_s6_0
theorem ee_s7_0 : ee_scr 7 0 1100 = true := by decide +kernel
theorem ee_s7 : ee_scr 7 0 1100 = true := ee_s7_0
theorem ee_s8_0 : ee_scr 8 0 1100 = true := by decide +kernel
theorem ee_s8 : ee_scr 8 0 1100 = true := ee_s8_0
theorem ee_s9_0 : ee_scr 9 0 1100 = true := by decide +kernel
theorem ee_s9 : ee_scr 9 0 1100 = true := ee_s9_0
theorem ee_s10_0 : ee_scr 10 0 1100 = true := by decide +kernel
theorem ee_s10 : ee_scr 10 0 1100 = true := ee_s10_0
theorem ee_s11_0 : ee_scr 11 0 1100 = true := by decide +kernel
theorem ee_s11 : ee_scr 11 0 1100 = true := ee_s11_0
theorem ee_s12_0 : ee_scr 12 0 1100 = true := by decide +kernel
theorem ee_s12 : ee_scr 12 0 1100 = true := ee_s12_0
theorem ee_s13_0 : ee_scr 13 0 1100 = true := by decide +kernel
theorem ee_s13 : ee_scr 13 0 1100 = true := ee_s13_0
theorem ee_s14_0 : ee_scr 14 0 1100 = true := by decide +kernel
theorem ee_s14 : ee_scr 14 0 1100 = true := ee_s14_0
theorem ee_s15_0 : ee_scr 15 0 1100 = true := by decide +kernel
theorem ee_s15 : ee_scr 15 0 1100 = true := ee_s15_0
theorem ee_s16_0 : ee_scr 16 0 1100 = true := by decide +kernel
theorem ee_s16 : ee_scr 16 0 1100 = true := ee_s16_0
theorem ee_s17_0 : ee_scr 17 0 1100 = true := by decide +kernel
theorem ee_s17 : ee_scr 17 0 1100 = true := ee_s17_0
theorem ee_s18_0 : ee_scr 18 0 1100 = true := by decide +kernel
theorem ee_s18 : ee_scr 18 0 1100 = true := ee_s18_0
theorem ee_s19_0 : ee_scr 19 0 1100 = true := by decide +kernel
theorem ee_s19 : ee_scr 19 0 1100 = true := ee_s19_0
theorem ee_s20_0 : ee_scr 20 0 1100 = true := by decide +kernel
theorem ee_s20 : ee_scr 20 0 1100 = true := ee_s20_0
