theorem ee_s132_0 : ee_scr 132 0 1100 = true := by decide +kernel
theorem ee_s132 : ee_scr 132 0 1100 = true := ee_s132_0
theorem ee_s133_0 : ee_scr 133 0 1100 = true := by decide +kernel
theorem ee_s133 : ee_scr 133 0 1100 = true := ee_s133_0
theorem ee_s134_0 : ee_scr 134 0 1100 = true := by decide +kernel
theorem ee_s134 : ee_scr 134 0 1100 = true := ee_s134_0
theorem ee_s135_0 : ee_scr 135 0 1100 = true := by decide +kernel
theorem ee_s135 : ee_scr 135 0 1100 = true := ee_s135_0
theorem ee_s136_0 : ee_scr 136 0 1100 = true := by decide +kernel
theorem ee_s136 : ee_scr 136 0 1100 = true := ee_s136_0
theorem ee_s137_0 : ee_scr 137 0 1100 = true := by decide +kernel
theorem ee_s137 : ee_scr 137 0 1100 = true := ee_s137_0
theorem ee_s138_0 : ee_scr 138 0 1100 = true := by decide +kernel
theorem ee_s138 : ee_scr 138 0 1100 = true := ee_s138_0
theorem ee_s139_0 : ee_scr 139 0 1100 = true := by decide +kernel
theorem ee_s139 : ee_scr 139 0 1100 = true := ee_s139_0
theorem ee_s140_0 : ee_scr 140 0 1100 = true := by decide +kernel
theorem ee_s140 : ee_scr 140 0 1100 = true := ee_s140_0
theorem ee_s141_0 : ee_scr 141 0 1100 = true := by decide +kernel
theorem ee_s141 : ee_scr 141 0 1100 = true := ee_s141_0
theorem ee_s142_0 : ee_scr 142 0 1100 = true := by decide +kernel
theorem ee_s142 : ee_scr 142 0 1100 = true := ee_s142_0
theorem ee_s143_0 : ee_scr 143 0 1100 = true := by decide +kernel
theorem ee_s143 : ee_scr 143 0 1100 = true := ee_s143_0
theorem ee_s144_0 : ee_scr 144 0 1100 = true := by decide +kernel
theorem ee_s144 : ee_scr 144 0 1100 = true := ee_s144_0
theorem ee_s145_0 : ee_scr 145 0 1100 = true := by decide +kernel
theorem ee_s145 : ee_scr 145 0 1100 = true := ee_s145_0
theorem ee_s146_0 : ee_scr 146 0 1100 = true := by decide +kernel
theorem ee_s146 : ee_scr 146 0 1100 = true := ee_s146_0
theorem ee_s147_0 : ee_scr 147 0 1100 = true := by decide +kernel
theorem ee_s147 : ee_scr 147 0 1100 = true := ee_s147_0
theorem ee_s148_0 : ee_scr 148 0 1100 = true := by decide +kernel
theorem ee_s148 : ee_scr 148 0 1100 = true := ee_s148_0
theorem ee_s149_0 : ee_scr 149 0 1100 = true := by decide +kernel
theorem ee_s149 : ee_scr 149 0 1100 = true := ee_s149_0
theorem ee_s150_0 : ee_scr 150 0 1100 = true := by decide +kernel
theorem ee_s150 : ee_scr 150 0 1100 = true := ee_s150_0
theorem ee_s151_0 : ee_scr 151 0 1100 = true := by decide +kernel
theorem ee_s151 : ee_scr 151 0 1100 = true := ee_s151_0
theorem ee_s152_0 : ee_scr 152 0 1100 = true := by decide +kernel
theorem ee_s152 : ee_scr 152 0 1100 = true := ee_s152_0
theorem ee_s153_0 : ee_scr 153 0 1100 = true := by decide +kernel
theorem ee_s153 : ee_scr 153 0 1100 = true := ee_s153_0
theorem ee_s154_0 : ee_scr 154 0 1100 = true := by decide +kernel
theorem ee_s154 : ee_scr 154 0 1100 = true := ee_s154_0
theorem ee_s155_0 : ee_scr 155 0 1100 = true := by decide +kernel
theorem ee_s155 : ee_scr 155 0 1100 = true := ee_s155_0
theorem ee_s156_0 : ee_scr 156 0 1100 = true := by decide +kernel
theorem ee_s156 : ee_scr 156 0 1100 = true := ee_s156_0
theorem ee_s157_0 : ee_scr 157 0 1100 = true := by decide +kernel
theorem ee_s157 : ee_scr 157 0 1100 = true := ee_s157_0
theorem ee_s158_0 : ee_scr 158 0 1100 = true := by decide +kernel
theorem ee_s158 : ee_scr 158 0 1100 = true := ee_s158_0
theorem ee_s159_0 : ee_scr 159 0 1100 = true := by decide +kernel
theorem ee_s159 : ee_scr 159 0 1100 = true := ee_s159_0
theorem ee_s160_0 : ee_scr 160 0 1100 = true := by decide +kernel
theorem ee_s160 : ee_scr 160 0 1100 = true := ee_s160_0
theorem ee_s161_0 : ee_scr 161 0 1100 = true := by decide +kernel
theorem ee_s161 : ee_scr 161 0 1100 = true := ee_s161_0
theorem ee_s162_0 : ee_scr 162 0 1100 = true := by decide +kernel
theorem ee_s162 : ee_scr 162 0 1100 = true := ee_s162_0
theorem ee_s163_0 : ee_scr 163 0 1100 = true := by decide +kernel
theorem ee_s163 : ee_scr 163 0 1100 = true := ee_s163_0
theorem ee_s164_0 : ee_scr 164 0 1100 = true := by decide +kernel
theorem ee_s164 : ee_scr 164 0 1100 = true := ee_s164_0
theorem ee_s165_0 : ee_scr 165 0 1100 = true := by decide +kernel
theorem ee_s165 : ee_scr 165 0 1100 = true := ee_s165_0
theorem ee_s166_0 : ee_scr 166 0 1100 = true := by decide +kernel
theorem ee_s166 : ee_scr 166 0 1100 = true := ee_s166_0
theorem ee_s167_0 : ee_scr 167 0 1100 = true := by decide +kernel
theorem ee_s167 : ee_scr 167 0 1100 = true := ee_s167_0
theorem ee_s168_0 : ee_scr 168 0 1100 = true := by decide +kernel
theorem ee_s168 : ee_scr 168 0 1100 = true := ee_s168_0
theorem ee_s169_0 : ee_scr 169 0 1100 = true := by decide +kernel
theorem ee_s169 : ee_scr 169 0 1100 = true := ee_s169_0
theorem ee_s170_0 : ee_scr 170 0 1100 = true := by decide +kernel
theorem ee_s170 : ee_scr 170 0 1100 = true := ee_s170_0
