/-! ===== the cases of the law, by program ===== -/
theorem lw_g7 : (lw_tg.all fun t => lw_ok t lw_T7) = true := by decide +kernel
