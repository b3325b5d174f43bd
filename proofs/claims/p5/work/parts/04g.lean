theorem ee_s200_0 : ee_scr 200 0 1100 = true := by decide +kernel
theorem ee_s200 : ee_scr 200 0 1100 = true := ee_s200_0
theorem ee_s201_0 : ee_scr 201 0 1100 = true := by decide +kernel
theorem ee_s201 : ee_scr 201 0 1100 = true := ee_s201_0
theorem ee_s202_0 : ee_scr 202 0 1100 = true := by decide +kernel
theorem ee_s202 : ee_scr 202 0 1100 = true := ee_s202_0
theorem ee_s203_0 : ee_scr 203 0 1100 = true := by decide +kernel
theorem ee_s203 : ee_scr 203 0 1100 = true := ee_s203_0
theorem ee_s204_0 : ee_scr 204 0 1100 = true := by decide +kernel
theorem ee_s204 : ee_scr 204 0 1100 = true := ee_s204_0
theorem ee_s205_0 : ee_scr 205 0 1100 = true := by decide +kernel
theorem ee_s205 : ee_scr 205 0 1100 = true := ee_s205_0
theorem ee_s206_0 : ee_scr 206 0 1100 = true := by decide +kernel
theorem ee_s206 : ee_scr 206 0 1100 = true := ee_s206_0
theorem ee_s207_0 : ee_scr 207 0 1100 = true := by decide +kernel
theorem ee_s207 : ee_scr 207 0 1100 = true := ee_s207_0
theorem ee_s208_0 : ee_scr 208 0 100 = true := by decide +kernel
theorem ee_s208_1 : ee_scr 208 100 100 = true := by decide +kernel
theorem ee_s208_2 : ee_scr 208 200 100 = true := by decide +kernel
theorem ee_s208_3 : ee_scr 208 300 100 = true := by decide +kernel
theorem ee_s208_4 : ee_scr 208 400 700 = true := by decide +kernel
theorem ee_t208_1 : ee_scr 208 0 200 = true := @ee_scr_app 208 0 100 100 ee_s208_0 ee_s208_1
theorem ee_t208_2 : ee_scr 208 0 300 = true := @ee_scr_app 208 0 200 100 ee_t208_1 ee_s208_2
theorem ee_t208_3 : ee_scr 208 0 400 = true := @ee_scr_app 208 0 300 100 ee_t208_2 ee_s208_3
theorem ee_t208_4 : ee_scr 208 0 1100 = true := @ee_scr_app 208 0 400 700 ee_t208_3 ee_s208_4
theorem ee_s208 : ee_scr 208 0 1100 = true := ee_t208_4
theorem ee_s209_0 : ee_scr 209 0 200 = true := by decide +kernel
theorem ee_s209_1 : ee_scr 209 200 900 = true := by decide +kernel
theorem ee_t209_1 : ee_scr 209 0 1100 = true := @ee_scr_app 209 0 200 900 ee_s209_0 ee_s209_1
theorem ee_s209 : ee_scr 209 0 1100 = true := ee_t209_1
theorem ee_s210_0 : ee_scr 210 0 1100 = true := by decide +kernel
theorem ee_s210 : ee_scr 210 0 1100 = true := ee_s210_0
theorem ee_s211_0 : ee_scr 211 0 1100 = true := by decide +kernel
theorem ee_s211 : ee_scr 211 0 1100 = true := ee_s211_0
theorem ee_s212_0 : ee_scr 212 0 1100 = true := by decide +kernel
theorem ee_s212 : ee_scr 212 0 1100 = true := ee_s212_0
theorem ee_s213_0 : ee_scr 213 0 1100 = true := by decide +kernel
theorem ee_s213 : ee_scr 213 0 1100 = true := ee_s213_0
theorem ee_s214_0 : ee_scr 214 0 1100 = true := by decide +kernel
theorem ee_s214 : ee_scr 214 0 1100 = true := ee_s214_0
theorem ee_s215_0 : ee_scr 215 0 1100 = true := by decide +kernel
theorem ee_s215 : ee_scr 215 0 1100 = true := ee_s215_0
theorem ee_s216_0 : ee_scr 216 0 1100 = true := by decide +kernel
theorem ee_s216 : ee_scr 216 0 1100 = true := ee_s216_0
theorem ee_s217_0 : ee_scr 217 0 1100 = true := by decide +kernel
theorem ee_s217 : ee_scr 217 0 1100 = true := ee_s217_0
theorem ee_s218_0 : ee_scr 218 0 1100 = true := by decide +kernel
theorem ee_s218 : ee_scr 218 0 1100 = true := ee_s218_0
theorem ee_s219_0 : ee_scr 219 0 1100 = true := by decide +kernel
theorem ee_s219 : ee_scr 219 0 1100 = true := ee_s219_0
theorem ee_s220_0 : ee_scr 220 0 1100 = true := by decide +kernel
theorem ee_s220 : ee_scr 220 0 1100 = true := ee_s220_0
theorem ee_s221_0 : ee_scr 221 0 1100 = true := by decide +kernel
theorem ee_s221 : ee_scr 221 0 1100 = true := ee_s221_0
theorem ee_s222_0 : ee_scr 222 0 1100 = true := by decide +kernel
theorem ee_s222 : ee_scr 222 0 1100 = true := ee_s222_0
theorem ee_s223_0 : ee_scr 223 0 1100 = true := by decide +kernel
theorem ee_s223 : ee_scr 223 0 1100 = true := ee_s223_0
theorem ee_s224_0 : ee_scr 224 0 1100 = true := by decide +kernel
theorem ee_s224 : ee_scr 224 0 1100 = true := ee_s224_0
theorem ee_s225_0 : ee_scr 225 0 1100 = true := by decide +kernel
theorem ee_s225 : ee_scr 225 0 1100 = true := ee_s225_0
theorem ee_s226_0 : ee_scr 226 0 1100 = true := by decide +kernel
theorem ee_s226 : ee_scr 226 0 1100 = true := ee_s226_0
theorem ee_s227_0 : ee_scr 227 0 1100 = true := by decide +kernel
theorem ee_s227 : ee_scr 227 0 1100 = true := ee_s227_0
theorem ee_s228_0 : ee_scr 228 0 1100 = true := by decide +kernel
theorem ee_s228 : ee_scr 228 0 1100 = true := ee_s228_0
theorem ee_s229_0 : ee_scr 229 0 1100 = true := by decide +kernel
theorem ee_s229 : ee_scr 229 0 1100 = true := ee_s229_0
theorem ee_s230_0 : ee_scr 230 0 1100 = true := by decide +kernel
theorem ee_s230 : ee_scr 230 0 1100 = true := ee_s230_0
