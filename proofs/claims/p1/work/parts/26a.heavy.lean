/-! ===== the longest runs ===== -/
set_option maxRecDepth 100000 in
theorem ee_fh0_0 : ee_fin (ee_XB [(nat_lit 2147483649, nat_lit 2147483651), (nat_lit 2147483649, nat_lit 2147483652), (nat_lit 2147483649, nat_lit 2147483656), (nat_lit 2147483649, nat_lit 2147483651), (nat_lit 0, nat_lit 4294967295)]) (ee_a33 (nat_lit 2147483648)) = true := by decide +kernel
