theorem ee_s97_0 : ee_scr 97 0 1100 = true := by decide +kernel
theorem ee_s97 : ee_scr 97 0 1100 = true := ee_s97_0
theorem ee_s98_0 : ee_scr 98 0 1100 = true := by decide +kernel
theorem ee_s98 : ee_scr 98 0 1100 = true := ee_s98_0
theorem ee_s99_0 : ee_scr 99 0 1100 = true := by decide +kernel
theorem ee_s99 : ee_scr 99 0 1100 = true := ee_s99_0
theorem ee_s100_0 : ee_scr 100 0 1100 = true := by decide +kernel
theorem ee_s100 : ee_scr 100 0 1100 = true := ee_s100_0
theorem ee_s101_0 : ee_scr 101 0 1100 = true := by decide +kernel
theorem ee_s101 : ee_scr 101 0 1100 = true := ee_s101_0
theorem ee_s102_0 : ee_scr 102 0 1100 = true := by decide +kernel
theorem ee_s102 : ee_scr 102 0 1100 = true := ee_s102_0
theorem ee_s103_0 : ee_scr 103 0 1100 = true := by decide +kernel
theorem ee_s103 : ee_scr 103 0 1100 = true := ee_s103_0
theorem ee_s104_0 : ee_scr 104 0 1100 = true := by decide +kernel
theorem ee_s104 : ee_scr 104 0 1100 = true := ee_s104_0
theorem ee_s105_0 : ee_scr 105 0 1100 = true := by decide +kernel
theorem ee_s105 : ee_scr 105 0 1100 = true := ee_s105_0
theorem ee_s106_0 : ee_scr 106 0 1100 = true := by decide +kernel
theorem ee_s106 : ee_scr 106 0 1100 = true := ee_s106_0
theorem ee_s107_0 : ee_scr 107 0 1100 = true := by decide +kernel
theorem ee_s107 : ee_scr 107 0 1100 = true := ee_s107_0
theorem ee_s108_0 : ee_scr 108 0 1100 = true := by decide +kernel
theorem ee_s108 : ee_scr 108 0 1100 = true := ee_s108_0
theorem ee_s109_0 : ee_scr 109 0 1100 = true := by decide +kernel
theorem ee_s109 : ee_scr 109 0 1100 = true := ee_s109_0
theorem ee_s110_0 : ee_scr 110 0 1100 = true := by decide +kernel
theorem ee_s110 : ee_scr 110 0 1100 = true := ee_s110_0
theorem ee_s111_0 : ee_scr 111 0 1100 = true := by decide +kernel
theorem ee_s111 : ee_scr 111 0 1100 = true := ee_s111_0
theorem ee_s112_0 : ee_scr 112 0 1100 = true := by decide +kernel
theorem ee_s112 : ee_scr 112 0 1100 = true := ee_s112_0
theorem ee_s113_0 : ee_scr 113 0 1100 = true := by decide +kernel
theorem ee_s113 : ee_scr 113 0 1100 = true := ee_s113_0
theorem ee_s114_0 : ee_scr 114 0 1100 = true := by decide +kernel
theorem ee_s114 : ee_scr 114 0 1100 = true := ee_s114_0
theorem ee_s115_0 : ee_scr 115 0 1100 = true := by decide +kernel
theorem ee_s115 : ee_scr 115 0 1100 = true := ee_s115_0
theorem ee_s116_0 : ee_scr 116 0 1100 = true := by decide +kernel
theorem ee_s116 : ee_scr 116 0 1100 = true := ee_s116_0
theorem ee_s117_0 : ee_scr 117 0 1100 = true := by decide +kernel
theorem ee_s117 : ee_scr 117 0 1100 = true := ee_s117_0
theorem ee_s118_0 : ee_scr 118 0 100 = true := by decide +kernel
theorem ee_s118_1 : ee_scr 118 100 100 = true := by decide +kernel
theorem ee_s118_2 : ee_scr 118 200 100 = true := by decide +kernel
theorem ee_s118_3 : ee_scr 118 300 100 = true := by decide +kernel
theorem ee_s118_4 : ee_scr 118 400 700 = true := by decide +kernel
theorem ee_t118_1 : ee_scr 118 0 200 = true := @ee_scr_app 118 0 100 100 ee_s118_0 ee_s118_1
theorem ee_t118_2 : ee_scr 118 0 300 = true := @ee_scr_app 118 0 200 100 ee_t118_1 ee_s118_2
theorem ee_t118_3 : ee_scr 118 0 400 = true := @ee_scr_app 118 0 300 100 ee_t118_2 ee_s118_3
theorem ee_t118_4 : ee_scr 118 0 1100 = true := @ee_scr_app 118 0 400 700 ee_t118_3 ee_s118_4
theorem ee_s118 : ee_scr 118 0 1100 = true := ee_t118_4
theorem ee_s119_0 : ee_scr 119 0 200 = true := by decide +kernel
theorem ee_s119_1 : ee_scr 119 200 900 = true := by decide +kernel
theorem ee_t119_1 : ee_scr 119 0 1100 = true := @ee_scr_app 119 0 200 900 ee_s119_0 ee_s119_1
theorem ee_s119 : ee_scr 119 0 1100 = true := ee_t119_1
theorem ee_s120_0 : ee_scr 120 0 1100 = true := by decide +kernel
theorem ee_s120 : ee_scr 120 0 1100 = true := ee_s120_0
