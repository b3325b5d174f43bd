/-! ===== the cases of the law, by program ===== -/
theorem lw_g2 : (lw_tg.all fun t => lw_ok t lw_T2) = true := by decide +kernel
