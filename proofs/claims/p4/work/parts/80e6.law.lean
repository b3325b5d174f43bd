/-! ===== the cases of the law, by program ===== -/
theorem lw_g6 : (lw_tg.all fun t => lw_ok t lw_T6) = true := by decide +kernel
