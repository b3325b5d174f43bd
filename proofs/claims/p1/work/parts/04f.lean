theorem ee_s158_0 : ee_scr 158 0 1100 = true := by decide +kernel
theorem ee_s158 : ee_scr 158 0 1100 = true := ee_s158_0
theorem ee_s159_0 : ee_scr 159 0 1100 = true := by decide +kernel
theorem ee_s159 : ee_scr 159 0 1100 = true := ee_s159_0
theorem ee_s160_0 : ee_scr 160 0 1100 = true := by decide +kernel
theorem ee_s160 : ee_scr 160 0 1100 = true := ee_s160_0
theorem ee_s161_0 : ee_scr 161 0 1100 = true := by decide +kernel
theorem ee_s161 : ee_scr 161 0 1100 = true := ee_s161_0
theorem ee_s162_0 : ee_scr 162 0 1100 = true := by decide +kernel
theorem ee_s162 : ee_scr 162 0 1100 = true := ee_s162_0
theorem ee_s163_0 : ee_scr 163 0 1100 = true := by decide +kernel
theorem ee_s163 : ee_scr 163 0 1100 = true := ee_s163_0
theorem ee_s164_0 : ee_scr 164 0 1100 = true := by decide +kernel
theorem ee_s164 : ee_scr 164 0 1100 = true := ee_s164_0
theorem ee_s165_0 : ee_scr 165 0 1100 = true := by decide +kernel
theorem ee_s165 : ee_scr 165 0 1100 = true := ee_s165_0
theorem ee_s166_0 : ee_scr 166 0 1100 = true := by decide +kernel
theorem ee_s166 : ee_scr 166 0 1100 = true := ee_s166_0
theorem ee_s167_0 : ee_scr 167 0 1100 = true := by decide +kernel
theorem ee_s167 : ee_scr 167 0 1100 = true := ee_s167_0
theorem ee_s168_0 : ee_scr 168 0 1100 = true := by decide +kernel
theorem ee_s168 : ee_scr 168 0 1100 = true := ee_s168_0
theorem ee_s169_0 : ee_scr 169 0 1100 = true := by decide +kernel
theorem ee_s169 : ee_scr 169 0 1100 = true := ee_s169_0
theorem ee_s170_0 : ee_scr 170 0 1100 = true := by decide +kernel
theorem ee_s170 : ee_scr 170 0 1100 = true := ee_s170_0
theorem ee_s171_0 : ee_scr 171 0 1100 = true := by decide +kernel
theorem ee_s171 : ee_scr 171 0 1100 = true := ee_s171_0
theorem ee_s172_0 : ee_scr 172 0 1100 = true := by decide +kernel
theorem ee_s172 : ee_scr 172 0 1100 = true := ee_s172_0
theorem ee_s173_0 : ee_scr 173 0 1100 = true := by decide +kernel
theorem ee_s173 : ee_scr 173 0 1100 = true := ee_s173_0
theorem ee_s174_0 : ee_scr 174 0 1100 = true := by decide +kernel
theorem ee_s174 : ee_scr 174 0 1100 = true := ee_s174_0
theorem ee_s175_0 : ee_scr 175 0 1100 = true := by decide +kernel
theorem ee_s175 : ee_scr 175 0 1100 = true := ee_s175_0
theorem ee_s176_0 : ee_scr 176 0 1100 = true := by decide +kernel
theorem ee_s176 : ee_scr 176 0 1100 = true := ee_s176_0
theorem ee_s177_0 : ee_scr 177 0 1100 = true := by decide +kernel
theorem ee_s177 : ee_scr 177 0 1100 = true := ee_s177_0
theorem ee_s178_0 : ee_scr 178 0 1100 = true := by decide +kernel
theorem ee_s178 : ee_scr 178 0 1100 = true := ee_s178_0
theorem ee_s179_0 : ee_scr 179 0 1100 = true := by decide +kernel
theorem ee_s179 : ee_scr 179 0 1100 = true := ee_s179_0
theorem ee_s180_0 : ee_scr 180 0 1100 = true := by decide +kernel
theorem ee_s180 : ee_scr 180 0 1100 = true := ee_s180_0
theorem ee_s181_0 : ee_scr 181 0 200 = true := by decide +kernel
theorem ee_s181_1 : ee_scr 181 200 900 = true := by decide +kernel
theorem ee_t181_1 : ee_scr 181 0 1100 = true := @ee_scr_app 181 0 200 900 ee_s181_0 ee_s181_1
theorem ee_s181 : ee_scr 181 0 1100 = true := ee_t181_1
theorem ee_s182_0 : ee_scr 182 0 1100 = true := by decide +kernel
theorem ee_s182 : ee_scr 182 0 1100 = true := ee_s182_0
theorem ee_s183_0 : ee_scr 183 0 1100 = true := by decide +kernel
theorem ee_s183 : ee_scr 183 0 1100 = true := ee_s183_0
theorem ee_s184_0 : ee_scr 184 0 1100 = true := by decide +kernel
theorem ee_s184 : ee_scr 184 0 1100 = true := ee_s184_0
theorem ee_s185_0 : ee_scr 185 0 1100 = true := by decide +kernel
theorem ee_s185 : ee_scr 185 0 1100 = true := ee_s185_0
