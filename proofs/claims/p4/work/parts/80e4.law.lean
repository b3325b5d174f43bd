/-! ===== the cases of the law, by program ===== -/
theorem lw_g4 : (lw_tg.all fun t => lw_ok t lw_T4) = true := by decide +kernel
