theorem ee_s105_0 : ee_scr 105 0 1100 = true := by decide +kernel
theorem ee_s105 : ee_scr 105 0 1100 = true := ee_s105_0
theorem ee_s106_0 : ee_scr 106 0 1100 = true := by decide +kernel
theorem ee_s106 : ee_scr 106 0 1100 = true := ee_s106_0
theorem ee_s107_0 : ee_scr 107 0 1100 = true := by decide +kernel
theorem ee_s107 : ee_scr 107 0 1100 = true := ee_s107_0
theorem ee_s108_0 : ee_scr 108 0 1100 = true := by decide +kernel
theorem ee_s108 : ee_scr 108 0 1100 = true := ee_s108_0
theorem ee_s109_0 : ee_scr 109 0 1100 = true := by decide +kernel
theorem ee_s109 : ee_scr 109 0 1100 = true := ee_s109_0
theorem ee_s110_0 : ee_scr 110 0 1100 = true := by decide +kernel
theorem ee_s110 : ee_scr 110 0 1100 = true := ee_s110_0
theorem ee_s111_0 : ee_scr 111 0 1100 = true := by decide +kernel
theorem ee_s111 : ee_scr 111 0 1100 = true := ee_s111_0
theorem ee_s112_0 : ee_scr 112 0 1100 = true := by decide +kernel
theorem ee_s112 : ee_scr 112 0 1100 = true := ee_s112_0
theorem ee_s113_0 : ee_scr 113 0 1100 = true := by decide +kernel
theorem ee_s113 : ee_scr 113 0 1100 = true := ee_s113_0
theorem ee_s114_0 : ee_scr 114 0 1100 = true := by decide +kernel
theorem ee_s114 : ee_scr 114 0 1100 = true := ee_s114_0
theorem ee_s115_0 : ee_scr 115 0 1100 = true := by decide +kernel
theorem ee_s115 : ee_scr 115 0 1100 = true := ee_s115_0
theorem ee_s116_0 : ee_scr 116 0 1100 = true := by decide +kernel
theorem ee_s116 : ee_scr 116 0 1100 = true := ee_s116_0
theorem ee_s117_0 : ee_scr 117 0 1100 = true := by decide +kernel
theorem ee_s117 : ee_scr 117 0 1100 = true := ee_s117_0
theorem ee_s118_0 : ee_scr 118 0 1100 = true := by decide +kernel
theorem ee_s118 : ee_scr 118 0 1100 = true := ee_s118_0
theorem ee_s119_0 : ee_scr 119 0 1100 = true := by decide +kernel
theorem ee_s119 : ee_scr 119 0 1100 = true := ee_s119_0
theorem ee_s120_0 : ee_scr 120 0 1100 = true := by decide +kernel
theorem ee_s120 : ee_scr 120 0 1100 = true := ee_s120_0
theorem ee_s121_0 : ee_scr 121 0 1100 = true := by decide +kernel
theorem ee_s121 : ee_scr 121 0 1100 = true := ee_s121_0
theorem ee_s122_0 : ee_scr 122 0 200 = true := by decide +kernel
theorem ee_s122_1 : ee_scr 122 200 900 = true := by decide +kernel
theorem ee_t122_1 : ee_scr 122 0 1100 = true := @ee_scr_app 122 0 200 900 ee_s122_0 ee_s122_1
theorem ee_s122 : ee_scr 122 0 1100 = true := ee_t122_1
theorem ee_s123_0 : ee_scr 123 0 1100 = true := by decide +kernel
theorem ee_s123 : ee_scr 123 0 1100 = true := ee_s123_0
theorem ee_s124_0 : ee_scr 124 0 1100 = true := by decide +kernel
theorem ee_s124 : ee_scr 124 0 1100 = true := ee_s124_0
theorem ee_s125_0 : ee_scr 125 0 1100 = true := by decide +kernel
theorem ee_s125 : ee_scr 125 0 1100 = true := ee_s125_0
theorem ee_s126_0 : ee_scr 126 0 1100 = true := by decide +kernel
theorem ee_s126 : ee_scr 126 0 1100 = true := ee_s126_0
theorem ee_s127_0 : ee_scr 127 0 1100 = true := by decide +kernel
theorem ee_s127 : ee_scr 127 0 1100 = true := ee_s127_0
theorem ee_s128_0 : ee_scr 128 0 1100 = true := by decide +kernel
theorem ee_s128 : ee_scr 128 0 1100 = true := ee_s128_0
theorem ee_s129_0 : ee_scr 129 0 1100 = true := by decide +kernel
theorem ee_s129 : ee_scr 129 0 1100 = true := ee_s129_0
theorem ee_s130_0 : ee_scr 130 0 1100 = true := by decide +kernel
theorem ee_s130 : ee_scr 130 0 1100 = true := ee_s130_0
theorem ee_s131_0 : ee_scr 131 0 1100 = true := by decide +kernel
theorem ee_s131 : ee_scr 131 0 1100 = true := ee_s131_0
