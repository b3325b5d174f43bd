/-! ===== worst, in pieces ===== -/
def ee_wts1 : ee_S := (nat_lit 157, [.inr (.inl (nat_lit 165)), .inl (nat_lit 2147483651, nat_lit 2147483651), .inl (nat_lit 2147483652, nat_lit 2147483652), .inl (nat_lit 2147483712, nat_lit 2147483712), .inl (nat_lit 2147483712, nat_lit 2147483712), .inl (nat_lit 2147483649, nat_lit 2147483649), .inl (nat_lit 2147483651, nat_lit 2147483651), .inl (nat_lit 2147483648, nat_lit 2147483648)], [], ee_wth0, nat_lit 0, nat_lit 0)
set_option maxRecDepth 100000 in
theorem ee_wtr1 : ee_gn (ee_exe ee_X0 9) ee_X0 9 167 (nat_lit 3109) ee_wts0 = some ee_wts1 := ee_bO_eq (by decide +kernel)
