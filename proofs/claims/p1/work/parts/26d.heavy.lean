/-! ===== the longest runs ===== -/
set_option maxRecDepth 100000 in
theorem ee_fh22_2 : ee_fin (ee_XB [(nat_lit 2147483650, nat_lit 2147483650), (nat_lit 2147483650, nat_lit 2147483650), (nat_lit 0, nat_lit 4294967295), (nat_lit 0, nat_lit 4294967295), (nat_lit 0, nat_lit 4294967295)]) (ee_a33 (nat_lit 2147483670)) = true := by decide +kernel
