theorem ee_s121_0 : ee_scr 121 0 1100 = true := by decide +kernel
theorem ee_s121 : ee_scr 121 0 1100 = true := ee_s121_0
theorem ee_s122_0 : ee_scr 122 0 1100 = true := by decide +kernel
theorem ee_s122 : ee_scr 122 0 1100 = true := ee_s122_0
theorem ee_s123_0 : ee_scr 123 0 1100 = true := by decide +kernel
theorem ee_s123 : ee_scr 123 0 1100 = true := ee_s123_0
theorem ee_s124_0 : ee_scr 124 0 1100 = true := by decide +kernel
theorem ee_s124 : ee_scr 124 0 1100 = true := ee_s124_0
theorem ee_s125_0 : ee_scr 125 0 1100 = true := by decide +kernel
theorem ee_s125 : ee_scr 125 0 1100 = true := ee_s125_0
theorem ee_s126_0 : ee_scr 126 0 1100 = true := by decide +kernel
theorem ee_s126 : ee_scr 126 0 1100 = true := ee_s126_0
theorem ee_s127_0 : ee_scr 127 0 1100 = true := by decide +kernel
theorem ee_s127 : ee_scr 127 0 1100 = true := ee_s127_0
theorem ee_s128_0 : ee_scr 128 0 1100 = true := by decide +kernel
theorem ee_s128 : ee_scr 128 0 1100 = true := ee_s128_0
theorem ee_s129_0 : ee_scr 129 0 1100 = true := by decide +kernel
theorem ee_s129 : ee_scr 129 0 1100 = true := ee_s129_0
theorem ee_s130_0 : ee_scr 130 0 1100 = true := by decide +kernel
theorem ee_s130 : ee_scr 130 0 1100 = true := ee_s130_0
theorem ee_s131_0 : ee_scr 131 0 1100 = true := by decide +kernel
theorem ee_s131 : ee_scr 131 0 1100 = true := ee_s131_0
theorem ee_s132_0 : ee_scr 132 0 1100 = true := by decide +kernel
theorem ee_s132 : ee_scr 132 0 1100 = true := ee_s132_0
theorem ee_s133_0 : ee_scr 133 0 1100 = true := by decide +kernel
theorem ee_s133 : ee_scr 133 0 1100 = true := ee_s133_0
theorem ee_s134_0 : ee_scr 134 0 1100 = true := by decide +kernel
theorem ee_s134 : ee_scr 134 0 1100 = true := ee_s134_0
theorem ee_s135_0 : ee_scr 135 0 1100 = true := by decide +kernel
theorem ee_s135 : ee_scr 135 0 1100 = true := ee_s135_0
theorem ee_s136_0 : ee_scr 136 0 1100 = true := by decide +kernel
theorem ee_s136 : ee_scr 136 0 1100 = true := ee_s136_0
theorem ee_s137_0 : ee_scr 137 0 1100 = true := by decide +kernel
theorem ee_s137 : ee_scr 137 0 1100 = true := ee_s137_0
theorem ee_s138_0 : ee_scr 138 0 1100 = true := by decide +kernel
theorem ee_s138 : ee_scr 138 0 1100 = true := ee_s138_0
theorem ee_s139_0 : ee_scr 139 0 1100 = true := by decide +kernel
theorem ee_s139 : ee_scr 139 0 1100 = true := ee_s139_0
theorem ee_s140_0 : ee_scr 140 0 1100 = true := by decide +kernel
theorem ee_s140 : ee_scr 140 0 1100 = true := ee_s140_0
theorem ee_s141_0 : ee_scr 141 0 1100 = true := by decide +kernel
theorem ee_s141 : ee_scr 141 0 1100 = true := ee_s141_0
theorem ee_s142_0 : ee_scr 142 0 1100 = true := by decide +kernel
theorem ee_s142 : ee_scr 142 0 1100 = true := ee_s142_0
theorem ee_s143_0 : ee_scr 143 0 1100 = true := by decide +kernel
theorem ee_s143 : ee_scr 143 0 1100 = true := ee_s143_0
theorem ee_s144_0 : ee_scr 144 0 1100 = true := by decide +kernel
theorem ee_s144 : ee_scr 144 0 1100 = true := ee_s144_0
theorem ee_s145_0 : ee_scr 145 0 1100 = true := by decide +kernel
theorem ee_s145 : ee_scr 145 0 1100 = true := ee_s145_0
theorem ee_s146_0 : ee_scr 146 0 1100 = true := by decide +kernel
theorem ee_s146 : ee_scr 146 0 1100 = true := ee_s146_0
theorem ee_s147_0 : ee_scr 147 0 1100 = true := by decide +kernel
theorem ee_s147 : ee_scr 147 0 1100 = true := ee_s147_0
theorem ee_s148_0 : ee_scr 148 0 1100 = true := by decide +kernel
theorem ee_s148 : ee_scr 148 0 1100 = true := ee_s148_0
theorem ee_s149_0 : ee_scr 149 0 1100 = true := by decide +kernel
theorem ee_s149 : ee_scr 149 0 1100 = true := ee_s149_0
theorem ee_s150_0 : ee_scr 150 0 1100 = true := by decide +kernel
theorem ee_s150 : ee_scr 150 0 1100 = true := ee_s150_0
theorem ee_s151_0 : ee_scr 151 0 1100 = true := by decide +kernel
theorem ee_s151 : ee_scr 151 0 1100 = true := ee_s151_0
theorem ee_s152_0 : ee_scr 152 0 1100 = true := by decide +kernel
theorem ee_s152 : ee_scr 152 0 1100 = true := ee_s152_0
theorem ee_s153_0 : ee_scr 153 0 1100 = true := by decide +kernel
theorem ee_s153 : ee_scr 153 0 1100 = true := ee_s153_0
theorem ee_s154_0 : ee_scr 154 0 1100 = true := by decide +kernel
theorem ee_s154 : ee_scr 154 0 1100 = true := ee_s154_0
theorem ee_s155_0 : ee_scr 155 0 1100 = true := by decide +kernel
theorem ee_s155 : ee_scr 155 0 1100 = true := ee_s155_0
theorem ee_s156_0 : ee_scr 156 0 1100 = true := by decide +kernel
theorem ee_s156 : ee_scr 156 0 1100 = true := ee_s156_0
theorem ee_s157_0 : ee_scr 157 0 1100 = true := by decide +kernel
theorem ee_s157 : ee_scr 157 0 1100 = true := ee_s157_0
