theorem ee_s171_0 : ee_scr 171 0 1100 = true := by decide +kernel
theorem ee_s171 : ee_scr 171 0 1100 = true := ee_s171_0
theorem ee_s172_0 : ee_scr 172 0 1100 = true := by decide +kernel
theorem ee_s172 : ee_scr 172 0 1100 = true := ee_s172_0
theorem ee_s173_0 : ee_scr 173 0 1100 = true := by decide +kernel
theorem ee_s173 : ee_scr 173 0 1100 = true := ee_s173_0
theorem ee_s174_0 : ee_scr 174 0 1100 = true := by decide +kernel
theorem ee_s174 : ee_scr 174 0 1100 = true := ee_s174_0
theorem ee_s175_0 : ee_scr 175 0 1100 = true := by decide +kernel
theorem ee_s175 : ee_scr 175 0 1100 = true := ee_s175_0
theorem ee_s176_0 : ee_scr 176 0 1100 = true := by decide +kernel
theorem ee_s176 : ee_scr 176 0 1100 = true := ee_s176_0
theorem ee_s177_0 : ee_scr 177 0 1100 = true := by decide +kernel
theorem ee_s177 : ee_scr 177 0 1100 = true := ee_s177_0
theorem ee_s178_0 : ee_scr 178 0 1100 = true := by decide +kernel
theorem ee_s178 : ee_scr 178 0 1100 = true := ee_s178_0
theorem ee_s179_0 : ee_scr 179 0 1100 = true := by decide +kernel
theorem ee_s179 : ee_scr 179 0 1100 = true := ee_s179_0
theorem ee_s180_0 : ee_scr 180 0 1100 = true := by decide +kernel
theorem ee_s180 : ee_scr 180 0 1100 = true := ee_s180_0
theorem ee_s181_0 : ee_scr 181 0 1100 = true := by decide +kernel
theorem ee_s181 : ee_scr 181 0 1100 = true := ee_s181_0
theorem ee_s182_0 : ee_scr 182 0 1100 = true := by decide +kernel
theorem ee_s182 : ee_scr 182 0 1100 = true := ee_s182_0
theorem ee_s183_0 : ee_scr 183 0 1100 = true := by decide +kernel
theorem ee_s183 : ee_scr 183 0 1100 = true := ee_s183_0
theorem ee_s184_0 : ee_scr 184 0 1100 = true := by decide +kernel
theorem ee_s184 : ee_scr 184 0 1100 = true := ee_s184_0
theorem ee_s185_0 : ee_scr 185 0 1100 = true := by decide +kernel
theorem ee_s185 : ee_scr 185 0 1100 = true := ee_s185_0
theorem ee_s186_0 : ee_scr 186 0 1100 = true := by decide +kernel
theorem ee_s186 : ee_scr 186 0 1100 = true := ee_s186_0
theorem ee_s187_0 : ee_scr 187 0 1100 = true := by decide +kernel
theorem ee_s187 : ee_scr 187 0 1100 = true := ee_s187_0
theorem ee_s188_0 : ee_scr 188 0 1100 = true := by decide +kernel
theorem ee_s188 : ee_scr 188 0 1100 = true := ee_s188_0
theorem ee_s189_0 : ee_scr 189 0 1100 = true := by decide +kernel
theorem ee_s189 : ee_scr 189 0 1100 = true := ee_s189_0
theorem ee_s190_0 : ee_scr 190 0 1100 = true := by decide +kernel
theorem ee_s190 : ee_scr 190 0 1100 = true := ee_s190_0
theorem ee_s191_0 : ee_scr 191 0 1100 = true := by decide +kernel
theorem ee_s191 : ee_scr 191 0 1100 = true := ee_s191_0
theorem ee_s192_0 : ee_scr 192 0 1100 = true := by decide +kernel
theorem ee_s192 : ee_scr 192 0 1100 = true := ee_s192_0
theorem ee_s193_0 : ee_scr 193 0 1100 = true := by decide +kernel
theorem ee_s193 : ee_scr 193 0 1100 = true := ee_s193_0
theorem ee_s194_0 : ee_scr 194 0 1100 = true := by decide +kernel
theorem ee_s194 : ee_scr 194 0 1100 = true := ee_s194_0
theorem ee_s195_0 : ee_scr 195 0 1100 = true := by decide +kernel
theorem ee_s195 : ee_scr 195 0 1100 = true := ee_s195_0
theorem ee_s196_0 : ee_scr 196 0 1100 = true := by decide +kernel
theorem ee_s196 : ee_scr 196 0 1100 = true := ee_s196_0
theorem ee_s197_0 : ee_scr 197 0 1100 = true := by decide +kernel
theorem ee_s197 : ee_scr 197 0 1100 = true := ee_s197_0
theorem ee_s198_0 : ee_scr 198 0 1100 = true := by decide +kernel
theorem ee_s198 : ee_scr 198 0 1100 = true := ee_s198_0
theorem ee_s199_0 : ee_scr 199 0 1100 = true := by decide +kernel
theorem ee_s199 : ee_scr 199 0 1100 = true := ee_s199_0
