/-! ===== the cases of the law, by program ===== -/
theorem lw_g0 : (lw_tg.all fun t => lw_ok t lw_T0) = true := by decide +kernel
