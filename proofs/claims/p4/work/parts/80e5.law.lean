/-! ===== the cases of the law, by program ===== -/
theorem lw_g5 : (lw_tg.all fun t => lw_ok t lw_T5) = true := by decide +kernel
