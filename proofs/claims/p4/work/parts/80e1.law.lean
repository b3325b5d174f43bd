/-! ===== the cases of the law, by program ===== -/
theorem lw_g1 : (lw_tg.all fun t => lw_ok t lw_T1) = true := by decide +kernel
