/-! ===== the cases of the law, by program ===== -/
theorem lw_g3 : (lw_tg.all fun t => lw_ok t lw_T3) = true := by decide +kernel
