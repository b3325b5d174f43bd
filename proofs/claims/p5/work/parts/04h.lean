theorem ee_s231_0 : ee_scr 231 0 1100 = true := by decide +kernel
theorem ee_s231 : ee_scr 231 0 1100 = true := ee_s231_0
theorem ee_s232_0 : ee_scr 232 0 1100 = true := by decide +kernel
theorem ee_s232 : ee_scr 232 0 1100 = true := ee_s232_0
theorem ee_s233_0 : ee_scr 233 0 1100 = true := by decide +kernel
theorem ee_s233 : ee_scr 233 0 1100 = true := ee_s233_0
theorem ee_s234_0 : ee_scr 234 0 1100 = true := by decide +kernel
theorem ee_s234 : ee_scr 234 0 1100 = true := ee_s234_0
theorem ee_s235_0 : ee_scr 235 0 1100 = true := by decide +kernel
theorem ee_s235 : ee_scr 235 0 1100 = true := ee_s235_0
theorem ee_s236_0 : ee_scr 236 0 1100 = true := by decide +kernel
theorem ee_s236 : ee_scr 236 0 1100 = true := ee_s236_0
theorem ee_s237_0 : ee_scr 237 0 1100 = true := by decide +kernel
theorem ee_s237 : ee_scr 237 0 1100 = true := ee_s237_0
theorem ee_s238_0 : ee_scr 238 0 1100 = true := by decide +kernel
theorem ee_s238 : ee_scr 238 0 1100 = true := ee_s238_0
theorem ee_s239_0 : ee_scr 239 0 1100 = true := by decide +kernel
theorem ee_s239 : ee_scr 239 0 1100 = true := ee_s239_0
theorem ee_s240_0 : ee_scr 240 0 1100 = true := by decide +kernel
theorem ee_s240 : ee_scr 240 0 1100 = true := ee_s240_0
theorem ee_s241_0 : ee_scr 241 0 1100 = true := by decide +kernel
theorem ee_s241 : ee_scr 241 0 1100 = true := ee_s241_0
theorem ee_s242_0 : ee_scr 242 0 1100 = true := by decide +kernel
theorem ee_s242 : ee_scr 242 0 1100 = true := ee_s242_0
theorem ee_s243_0 : ee_scr 243 0 1100 = true := by decide +kernel
theorem ee_s243 : ee_scr 243 0 1100 = true := ee_s243_0
theorem ee_s244_0 : ee_scr 244 0 1100 = true := by decide +kernel
theorem ee_s244 : ee_scr 244 0 1100 = true := ee_s244_0
theorem ee_s245_0 : ee_scr 245 0 1100 = true := by decide +kernel
theorem ee_s245 : ee_scr 245 0 1100 = true := ee_s245_0
theorem ee_s246_0 : ee_scr 246 0 1100 = true := by decide +kernel
theorem ee_s246 : ee_scr 246 0 1100 = true := ee_s246_0
theorem ee_s247_0 : ee_scr 247 0 1100 = true := by decide +kernel
theorem ee_s247 : ee_scr 247 0 1100 = true := ee_s247_0
theorem ee_s248_0 : ee_scr 248 0 1100 = true := by decide +kernel
theorem ee_s248 : ee_scr 248 0 1100 = true := ee_s248_0
theorem ee_s249_0 : ee_scr 249 0 1100 = true := by decide +kernel
theorem ee_s249 : ee_scr 249 0 1100 = true := ee_s249_0
theorem ee_s250_0 : ee_scr 250 0 1100 = true := by decide +kernel
theorem ee_s250 : ee_scr 250 0 1100 = true := ee_s250_0
theorem ee_s251_0 : ee_scr 251 0 1100 = true := by decide +kernel
theorem ee_s251 : ee_scr 251 0 1100 = true := ee_s251_0
theorem ee_s252_0 : ee_scr 252 0 1100 = true := by decide +kernel
theorem ee_s252 : ee_scr 252 0 1100 = true := ee_s252_0
theorem ee_s253_0 : ee_scr 253 0 1100 = true := by decide +kernel
theorem ee_s253 : ee_scr 253 0 1100 = true := ee_s253_0
theorem ee_s254_0 : ee_scr 254 0 1100 = true := by decide +kernel
theorem ee_s254 : ee_scr 254 0 1100 = true := ee_s254_0
theorem ee_s255_0 : ee_scr 255 0 1100 = true := by decide +kernel
theorem ee_s255 : ee_scr 255 0 1100 = true := ee_s255_0
theorem ee_s256_0 : ee_scr 256 0 1100 = true := by decide +kernel
theorem ee_s256 : ee_scr 256 0 1100 = true := ee_s256_0
theorem ee_s257_0 : ee_scr 257 0 1100 = true := by decide +kernel
theorem ee_s257 : ee_scr 257 0 1100 = true := ee_s257_0
theorem ee_s258_0 : ee_scr 258 0 1100 = true := by decide +kernel
theorem ee_s258 : ee_scr 258 0 1100 = true := ee_s258_0
theorem ee_s259_0 : ee_scr 259 0 1100 = true := by decide +kernel
theorem ee_s259 : ee_scr 259 0 1100 = true := ee_s259_0
theorem ee_s260_0 : ee_scr 260 0 1100 = true := by decide +kernel
theorem ee_s260 : ee_scr 260 0 1100 = true := ee_s260_0
theorem ee_s261_0 : ee_scr 261 0 1100 = true := by decide +kernel
theorem ee_s261 : ee_scr 261 0 1100 = true := ee_s261_0
theorem ee_s262_0 : ee_scr 262 0 1100 = true := by decide +kernel
theorem ee_s262 : ee_scr 262 0 1100 = true := ee_s262_0
theorem ee_s263_0 : ee_scr 263 0 1100 = true := by decide +kernel
theorem ee_s263 : ee_scr 263 0 1100 = true := ee_s263_0
theorem ee_s264_0 : ee_scr 264 0 1100 = true := by decide +kernel
theorem ee_s264 : ee_scr 264 0 1100 = true := ee_s264_0
theorem ee_s265_0 : ee_scr 265 0 1100 = true := by decide +kernel
theorem ee_s265 : ee_scr 265 0 1100 = true := ee_s265_0
theorem ee_s266_0 : ee_scr 266 0 1100 = true := by decide +kernel
theorem ee_s266 : ee_scr 266 0 1100 = true := ee_s266_0
theorem ee_s267_0 : ee_scr 267 0 1100 = true := by decide +kernel
theorem ee_s267 : ee_scr 267 0 1100 = true := ee_s267_0
theorem ee_s268_0 : ee_scr 268 0 1100 = true := by decide +kernel
theorem ee_s268 : ee_scr 268 0 1100 = true := ee_s268_0
theorem ee_s269_0 : ee_scr 269 0 1100 = true := by decide +kernel
theorem ee_s269 : ee_scr 269 0 1100 = true := ee_s269_0
