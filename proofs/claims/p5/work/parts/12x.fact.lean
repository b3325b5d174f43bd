/-! ===== a cell's values, clauses, facts ===== -/
/-- a value of a type: a number between two, a reference to a kind (even: not null), anything -/
def ab_tv (ks : List Nat) (ad : List Nat) (v : Value) : ab_T → Prop
  | .inl q => ∃ x : Int32, v = .int x ∧ q.1 ≤ x.toInt ∧ x.toInt ≤ q.2
  | .inr (.inl n) => (∃ k a : Nat, ks[k]? = some (n / 2) ∧ ad[k]? = some a ∧ v = .ref a) ∨ (n % 2 = 1 ∧ v = .null)
  | .inr (.inr _) => v = .null ∨ (∃ x, v = .ref x) ∨ ∃ x : Int32, v = .int x
def ab_fi (vs : List Value) (a : Nat) : Option Int := match vs[a]? with
  | some (.int x) => some x.toInt
  | _ => none
def ab_ar (ws : va_W) (vs : List Value) (a : Nat) : Option (Nat × va_E) := match vs[a]? with
  | some (.ref q) => ws.find? (fun z => z.1 == q)
  | _ => none
/-- a clause's word: 0 a field, 1 an element, 2 the length of a row in a field, 3 the element 4 * field + c of a row in a field, 4 the first element of the row of lines that an element names -/
def ab_cr (ws : va_W) (e : va_E) (r : ab_R) : Option Int := match r.1, e with
  | 0, .inr (_, vs) => ab_fi vs r.2.1
  | 1, .inl (_, n, .inl f) => if r.2.1 < n then some (f r.2.1).toInt else none
  | 2, .inr (_, vs) => (match ab_ar ws vs r.2.1 with
    | some (_, .inl (_, n, _)) => some (n : Int)
    | _ => none)
  | 3, .inr (_, vs) => (match ab_ar ws vs r.2.1, ab_fi vs r.2.2.1 with
    | some (_, .inl (_, n, .inl f)), some x => if 0 ≤ x ∧ 4 * x + r.2.2.2 < (n : Int) then some (f (4 * x + r.2.2.2).toNat).toInt else none
    | _, _ => none)
  | 4, .inl (_, n, .inl f) => if (r.2.1 < n ∧ 1580 ≤ n ∧ r.2.2.1 < 4) ∧ 0 ≤ (f r.2.1).toInt ∧ (f r.2.1).toInt ≤ 19 then some (f (540 + 200 * r.2.2.1 + 4 * (f r.2.1).toInt.toNat)).toInt else none
  | _, _ => none
/-- a clause holds at a cell -/
def ab_hd (ws : va_W) (e : va_E) (c : ab_Cl) : Prop := (∀ g ∈ c.1, ∃ x, ab_cr ws e g.1 = some x ∧ g.2.1 ≤ x ∧ x ≤ g.2.2) →
  ∃ x y, ab_cr ws e c.2.1.2 = some x ∧ (c.2.2.1.1 = 0 ∨ ab_cr ws e c.2.2.1.2 = some y) ∧ c.2.2.2.1 ≤ c.2.1.1 * x - c.2.2.1.1 * y ∧ c.2.1.1 * x - c.2.2.1.1 * y ≤ c.2.2.2.2
/-- the clauses of the reference's row -/
def ab_c37 : List ab_Cl := [([((nat_lit 1, nat_lit 473, nat_lit 0, nat_lit 0), 1, 1)], (1, (nat_lit 1, nat_lit 474, nat_lit 0, nat_lit 0)), (0, (nat_lit 1, nat_lit 0, nat_lit 0, nat_lit 0)), 0, 7), ([((nat_lit 1, nat_lit 473, nat_lit 0, nat_lit 0), 1, 1)], (1, (nat_lit 1, nat_lit 475, nat_lit 0, nat_lit 0)), (0, (nat_lit 1, nat_lit 0, nat_lit 0, nat_lit 0)), 0, 2), ([((nat_lit 1, nat_lit 473, nat_lit 0, nat_lit 0), 1, 1)], (1, (nat_lit 1, nat_lit 476, nat_lit 0, nat_lit 0)), (0, (nat_lit 1, nat_lit 0, nat_lit 0, nat_lit 0)), -1, 79999999), ([((nat_lit 1, nat_lit 472, nat_lit 0, nat_lit 0), 1, 4)], (1, (nat_lit 1, nat_lit 473, nat_lit 0, nat_lit 0)), (0, (nat_lit 1, nat_lit 0, nat_lit 0, nat_lit 0)), 1, 5), ([((nat_lit 1, nat_lit 477, nat_lit 0, nat_lit 0), 1, 1)], (1, (nat_lit 1, nat_lit 478, nat_lit 0, nat_lit 0)), (0, (nat_lit 1, nat_lit 0, nat_lit 0, nat_lit 0)), 0, 7), ([((nat_lit 1, nat_lit 477, nat_lit 0, nat_lit 0), 1, 1)], (1, (nat_lit 1, nat_lit 479, nat_lit 0, nat_lit 0)), (0, (nat_lit 1, nat_lit 0, nat_lit 0, nat_lit 0)), 0, 2), ([((nat_lit 1, nat_lit 477, nat_lit 0, nat_lit 0), 1, 1)], (1, (nat_lit 1, nat_lit 480, nat_lit 0, nat_lit 0)), (0, (nat_lit 1, nat_lit 0, nat_lit 0, nat_lit 0)), -1, 79999999), ([((nat_lit 1, nat_lit 472, nat_lit 0, nat_lit 0), 2, 4)], (1, (nat_lit 1, nat_lit 477, nat_lit 0, nat_lit 0)), (0, (nat_lit 1, nat_lit 0, nat_lit 0, nat_lit 0)), 1, 5), ([((nat_lit 1, nat_lit 481, nat_lit 0, nat_lit 0), 1, 1)], (1, (nat_lit 1, nat_lit 482, nat_lit 0, nat_lit 0)), (0, (nat_lit 1, nat_lit 0, nat_lit 0, nat_lit 0)), 0, 7), ([((nat_lit 1, nat_lit 481, nat_lit 0, nat_lit 0), 1, 1)], (1, (nat_lit 1, nat_lit 483, nat_lit 0, nat_lit 0)), (0, (nat_lit 1, nat_lit 0, nat_lit 0, nat_lit 0)), 0, 2), ([((nat_lit 1, nat_lit 481, nat_lit 0, nat_lit 0), 1, 1)], (1, (nat_lit 1, nat_lit 484, nat_lit 0, nat_lit 0)), (0, (nat_lit 1, nat_lit 0, nat_lit 0, nat_lit 0)), -1, 79999999), ([((nat_lit 1, nat_lit 472, nat_lit 0, nat_lit 0), 3, 4)], (1, (nat_lit 1, nat_lit 481, nat_lit 0, nat_lit 0)), (0, (nat_lit 1, nat_lit 0, nat_lit 0, nat_lit 0)), 1, 5), ([((nat_lit 1, nat_lit 485, nat_lit 0, nat_lit 0), 1, 1)], (1, (nat_lit 1, nat_lit 486, nat_lit 0, nat_lit 0)), (0, (nat_lit 1, nat_lit 0, nat_lit 0, nat_lit 0)), 0, 7), ([((nat_lit 1, nat_lit 485, nat_lit 0, nat_lit 0), 1, 1)], (1, (nat_lit 1, nat_lit 487, nat_lit 0, nat_lit 0)), (0, (nat_lit 1, nat_lit 0, nat_lit 0, nat_lit 0)), 0, 2), ([((nat_lit 1, nat_lit 485, nat_lit 0, nat_lit 0), 1, 1)], (1, (nat_lit 1, nat_lit 488, nat_lit 0, nat_lit 0)), (0, (nat_lit 1, nat_lit 0, nat_lit 0, nat_lit 0)), -1, 79999999), ([((nat_lit 1, nat_lit 472, nat_lit 0, nat_lit 0), 4, 4)], (1, (nat_lit 1, nat_lit 485, nat_lit 0, nat_lit 0)), (0, (nat_lit 1, nat_lit 0, nat_lit 0, nat_lit 0)), 1, 5), ([((nat_lit 1, nat_lit 673, nat_lit 0, nat_lit 0), 1, 1)], (1, (nat_lit 1, nat_lit 674, nat_lit 0, nat_lit 0)), (0, (nat_lit 1, nat_lit 0, nat_lit 0, nat_lit 0)), 0, 7), ([((nat_lit 1, nat_lit 673, nat_lit 0, nat_lit 0), 1, 1)], (1, (nat_lit 1, nat_lit 675, nat_lit 0, nat_lit 0)), (0, (nat_lit 1, nat_lit 0, nat_lit 0, nat_lit 0)), 0, 2), ([((nat_lit 1, nat_lit 673, nat_lit 0, nat_lit 0), 1, 1)], (1, (nat_lit 1, nat_lit 676, nat_lit 0, nat_lit 0)), (0, (nat_lit 1, nat_lit 0, nat_lit 0, nat_lit 0)), -1, 79999999), ([((nat_lit 1, nat_lit 672, nat_lit 0, nat_lit 0), 1, 4)], (1, (nat_lit 1, nat_lit 673, nat_lit 0, nat_lit 0)), (0, (nat_lit 1, nat_lit 0, nat_lit 0, nat_lit 0)), 1, 5), ([((nat_lit 1, nat_lit 677, nat_lit 0, nat_lit 0), 1, 1)], (1, (nat_lit 1, nat_lit 678, nat_lit 0, nat_lit 0)), (0, (nat_lit 1, nat_lit 0, nat_lit 0, nat_lit 0)), 0, 7), ([((nat_lit 1, nat_lit 677, nat_lit 0, nat_lit 0), 1, 1)], (1, (nat_lit 1, nat_lit 679, nat_lit 0, nat_lit 0)), (0, (nat_lit 1, nat_lit 0, nat_lit 0, nat_lit 0)), 0, 2), ([((nat_lit 1, nat_lit 677, nat_lit 0, nat_lit 0), 1, 1)], (1, (nat_lit 1, nat_lit 680, nat_lit 0, nat_lit 0)), (0, (nat_lit 1, nat_lit 0, nat_lit 0, nat_lit 0)), -1, 79999999), ([((nat_lit 1, nat_lit 672, nat_lit 0, nat_lit 0), 2, 4)], (1, (nat_lit 1, nat_lit 677, nat_lit 0, nat_lit 0)), (0, (nat_lit 1, nat_lit 0, nat_lit 0, nat_lit 0)), 1, 5), ([((nat_lit 1, nat_lit 681, nat_lit 0, nat_lit 0), 1, 1)], (1, (nat_lit 1, nat_lit 682, nat_lit 0, nat_lit 0)), (0, (nat_lit 1, nat_lit 0, nat_lit 0, nat_lit 0)), 0, 7), ([((nat_lit 1, nat_lit 681, nat_lit 0, nat_lit 0), 1, 1)], (1, (nat_lit 1, nat_lit 683, nat_lit 0, nat_lit 0)), (0, (nat_lit 1, nat_lit 0, nat_lit 0, nat_lit 0)), 0, 2), ([((nat_lit 1, nat_lit 681, nat_lit 0, nat_lit 0), 1, 1)], (1, (nat_lit 1, nat_lit 684, nat_lit 0, nat_lit 0)), (0, (nat_lit 1, nat_lit 0, nat_lit 0, nat_lit 0)), -1, 79999999), ([((nat_lit 1, nat_lit 672, nat_lit 0, nat_lit 0), 3, 4)], (1, (nat_lit 1, nat_lit 681, nat_lit 0, nat_lit 0)), (0, (nat_lit 1, nat_lit 0, nat_lit 0, nat_lit 0)), 1, 5), ([((nat_lit 1, nat_lit 685, nat_lit 0, nat_lit 0), 1, 1)], (1, (nat_lit 1, nat_lit 686, nat_lit 0, nat_lit 0)), (0, (nat_lit 1, nat_lit 0, nat_lit 0, nat_lit 0)), 0, 7), ([((nat_lit 1, nat_lit 685, nat_lit 0, nat_lit 0), 1, 1)], (1, (nat_lit 1, nat_lit 687, nat_lit 0, nat_lit 0)), (0, (nat_lit 1, nat_lit 0, nat_lit 0, nat_lit 0)), 0, 2), ([((nat_lit 1, nat_lit 685, nat_lit 0, nat_lit 0), 1, 1)], (1, (nat_lit 1, nat_lit 688, nat_lit 0, nat_lit 0)), (0, (nat_lit 1, nat_lit 0, nat_lit 0, nat_lit 0)), -1, 79999999), ([((nat_lit 1, nat_lit 672, nat_lit 0, nat_lit 0), 4, 4)], (1, (nat_lit 1, nat_lit 685, nat_lit 0, nat_lit 0)), (0, (nat_lit 1, nat_lit 0, nat_lit 0, nat_lit 0)), 1, 5), ([((nat_lit 1, nat_lit 873, nat_lit 0, nat_lit 0), 1, 1)], (1, (nat_lit 1, nat_lit 874, nat_lit 0, nat_lit 0)), (0, (nat_lit 1, nat_lit 0, nat_lit 0, nat_lit 0)), 0, 7), ([((nat_lit 1, nat_lit 873, nat_lit 0, nat_lit 0), 1, 1)], (1, (nat_lit 1, nat_lit 875, nat_lit 0, nat_lit 0)), (0, (nat_lit 1, nat_lit 0, nat_lit 0, nat_lit 0)), 0, 2), ([((nat_lit 1, nat_lit 873, nat_lit 0, nat_lit 0), 1, 1)], (1, (nat_lit 1, nat_lit 876, nat_lit 0, nat_lit 0)), (0, (nat_lit 1, nat_lit 0, nat_lit 0, nat_lit 0)), -1, 79999999), ([((nat_lit 1, nat_lit 872, nat_lit 0, nat_lit 0), 1, 4)], (1, (nat_lit 1, nat_lit 873, nat_lit 0, nat_lit 0)), (0, (nat_lit 1, nat_lit 0, nat_lit 0, nat_lit 0)), 1, 5), ([((nat_lit 1, nat_lit 877, nat_lit 0, nat_lit 0), 1, 1)], (1, (nat_lit 1, nat_lit 878, nat_lit 0, nat_lit 0)), (0, (nat_lit 1, nat_lit 0, nat_lit 0, nat_lit 0)), 0, 7), ([((nat_lit 1, nat_lit 877, nat_lit 0, nat_lit 0), 1, 1)], (1, (nat_lit 1, nat_lit 879, nat_lit 0, nat_lit 0)), (0, (nat_lit 1, nat_lit 0, nat_lit 0, nat_lit 0)), 0, 2), ([((nat_lit 1, nat_lit 877, nat_lit 0, nat_lit 0), 1, 1)], (1, (nat_lit 1, nat_lit 880, nat_lit 0, nat_lit 0)), (0, (nat_lit 1, nat_lit 0, nat_lit 0, nat_lit 0)), -1, 79999999), ([((nat_lit 1, nat_lit 872, nat_lit 0, nat_lit 0), 2, 4)], (1, (nat_lit 1, nat_lit 877, nat_lit 0, nat_lit 0)), (0, (nat_lit 1, nat_lit 0, nat_lit 0, nat_lit 0)), 1, 5), ([((nat_lit 1, nat_lit 881, nat_lit 0, nat_lit 0), 1, 1)], (1, (nat_lit 1, nat_lit 882, nat_lit 0, nat_lit 0)), (0, (nat_lit 1, nat_lit 0, nat_lit 0, nat_lit 0)), 0, 7), ([((nat_lit 1, nat_lit 881, nat_lit 0, nat_lit 0), 1, 1)], (1, (nat_lit 1, nat_lit 883, nat_lit 0, nat_lit 0)), (0, (nat_lit 1, nat_lit 0, nat_lit 0, nat_lit 0)), 0, 2), ([((nat_lit 1, nat_lit 881, nat_lit 0, nat_lit 0), 1, 1)], (1, (nat_lit 1, nat_lit 884, nat_lit 0, nat_lit 0)), (0, (nat_lit 1, nat_lit 0, nat_lit 0, nat_lit 0)), -1, 79999999), ([((nat_lit 1, nat_lit 872, nat_lit 0, nat_lit 0), 3, 4)], (1, (nat_lit 1, nat_lit 881, nat_lit 0, nat_lit 0)), (0, (nat_lit 1, nat_lit 0, nat_lit 0, nat_lit 0)), 1, 5), ([((nat_lit 1, nat_lit 885, nat_lit 0, nat_lit 0), 1, 1)], (1, (nat_lit 1, nat_lit 886, nat_lit 0, nat_lit 0)), (0, (nat_lit 1, nat_lit 0, nat_lit 0, nat_lit 0)), 0, 7), ([((nat_lit 1, nat_lit 885, nat_lit 0, nat_lit 0), 1, 1)], (1, (nat_lit 1, nat_lit 887, nat_lit 0, nat_lit 0)), (0, (nat_lit 1, nat_lit 0, nat_lit 0, nat_lit 0)), 0, 2), ([((nat_lit 1, nat_lit 885, nat_lit 0, nat_lit 0), 1, 1)], (1, (nat_lit 1, nat_lit 888, nat_lit 0, nat_lit 0)), (0, (nat_lit 1, nat_lit 0, nat_lit 0, nat_lit 0)), -1, 79999999), ([((nat_lit 1, nat_lit 872, nat_lit 0, nat_lit 0), 4, 4)], (1, (nat_lit 1, nat_lit 885, nat_lit 0, nat_lit 0)), (0, (nat_lit 1, nat_lit 0, nat_lit 0, nat_lit 0)), 1, 5), ([((nat_lit 1, nat_lit 1073, nat_lit 0, nat_lit 0), 1, 1)], (1, (nat_lit 1, nat_lit 1074, nat_lit 0, nat_lit 0)), (0, (nat_lit 1, nat_lit 0, nat_lit 0, nat_lit 0)), 0, 7), ([((nat_lit 1, nat_lit 1073, nat_lit 0, nat_lit 0), 1, 1)], (1, (nat_lit 1, nat_lit 1075, nat_lit 0, nat_lit 0)), (0, (nat_lit 1, nat_lit 0, nat_lit 0, nat_lit 0)), 0, 2), ([((nat_lit 1, nat_lit 1073, nat_lit 0, nat_lit 0), 1, 1)], (1, (nat_lit 1, nat_lit 1076, nat_lit 0, nat_lit 0)), (0, (nat_lit 1, nat_lit 0, nat_lit 0, nat_lit 0)), -1, 79999999), ([((nat_lit 1, nat_lit 1072, nat_lit 0, nat_lit 0), 1, 4)], (1, (nat_lit 1, nat_lit 1073, nat_lit 0, nat_lit 0)), (0, (nat_lit 1, nat_lit 0, nat_lit 0, nat_lit 0)), 1, 5), ([((nat_lit 1, nat_lit 1077, nat_lit 0, nat_lit 0), 1, 1)], (1, (nat_lit 1, nat_lit 1078, nat_lit 0, nat_lit 0)), (0, (nat_lit 1, nat_lit 0, nat_lit 0, nat_lit 0)), 0, 7), ([((nat_lit 1, nat_lit 1077, nat_lit 0, nat_lit 0), 1, 1)], (1, (nat_lit 1, nat_lit 1079, nat_lit 0, nat_lit 0)), (0, (nat_lit 1, nat_lit 0, nat_lit 0, nat_lit 0)), 0, 2), ([((nat_lit 1, nat_lit 1077, nat_lit 0, nat_lit 0), 1, 1)], (1, (nat_lit 1, nat_lit 1080, nat_lit 0, nat_lit 0)), (0, (nat_lit 1, nat_lit 0, nat_lit 0, nat_lit 0)), -1, 79999999), ([((nat_lit 1, nat_lit 1072, nat_lit 0, nat_lit 0), 2, 4)], (1, (nat_lit 1, nat_lit 1077, nat_lit 0, nat_lit 0)), (0, (nat_lit 1, nat_lit 0, nat_lit 0, nat_lit 0)), 1, 5), ([((nat_lit 1, nat_lit 1081, nat_lit 0, nat_lit 0), 1, 1)], (1, (nat_lit 1, nat_lit 1082, nat_lit 0, nat_lit 0)), (0, (nat_lit 1, nat_lit 0, nat_lit 0, nat_lit 0)), 0, 7), ([((nat_lit 1, nat_lit 1081, nat_lit 0, nat_lit 0), 1, 1)], (1, (nat_lit 1, nat_lit 1083, nat_lit 0, nat_lit 0)), (0, (nat_lit 1, nat_lit 0, nat_lit 0, nat_lit 0)), 0, 2), ([((nat_lit 1, nat_lit 1081, nat_lit 0, nat_lit 0), 1, 1)], (1, (nat_lit 1, nat_lit 1084, nat_lit 0, nat_lit 0)), (0, (nat_lit 1, nat_lit 0, nat_lit 0, nat_lit 0)), -1, 79999999), ([((nat_lit 1, nat_lit 1072, nat_lit 0, nat_lit 0), 3, 4)], (1, (nat_lit 1, nat_lit 1081, nat_lit 0, nat_lit 0)), (0, (nat_lit 1, nat_lit 0, nat_lit 0, nat_lit 0)), 1, 5), ([((nat_lit 1, nat_lit 1085, nat_lit 0, nat_lit 0), 1, 1)], (1, (nat_lit 1, nat_lit 1086, nat_lit 0, nat_lit 0)), (0, (nat_lit 1, nat_lit 0, nat_lit 0, nat_lit 0)), 0, 7), ([((nat_lit 1, nat_lit 1085, nat_lit 0, nat_lit 0), 1, 1)], (1, (nat_lit 1, nat_lit 1087, nat_lit 0, nat_lit 0)), (0, (nat_lit 1, nat_lit 0, nat_lit 0, nat_lit 0)), 0, 2), ([((nat_lit 1, nat_lit 1085, nat_lit 0, nat_lit 0), 1, 1)], (1, (nat_lit 1, nat_lit 1088, nat_lit 0, nat_lit 0)), (0, (nat_lit 1, nat_lit 0, nat_lit 0, nat_lit 0)), -1, 79999999), ([((nat_lit 1, nat_lit 1072, nat_lit 0, nat_lit 0), 4, 4)], (1, (nat_lit 1, nat_lit 1085, nat_lit 0, nat_lit 0)), (0, (nat_lit 1, nat_lit 0, nat_lit 0, nat_lit 0)), 1, 5), ([], (1, (nat_lit 1, nat_lit 1, nat_lit 0, nat_lit 0)), (1, (nat_lit 1, nat_lit 472, nat_lit 0, nat_lit 0)), 0, 4), ([], (1, (nat_lit 1, nat_lit 1, nat_lit 0, nat_lit 0)), (1, (nat_lit 1, nat_lit 672, nat_lit 0, nat_lit 0)), 0, 4), ([], (1, (nat_lit 1, nat_lit 1, nat_lit 0, nat_lit 0)), (1, (nat_lit 1, nat_lit 872, nat_lit 0, nat_lit 0)), 0, 4), ([], (1, (nat_lit 1, nat_lit 1, nat_lit 0, nat_lit 0)), (1, (nat_lit 1, nat_lit 1072, nat_lit 0, nat_lit 0)), 0, 4), ([((nat_lit 1, nat_lit 496, nat_lit 0, nat_lit 0), 1, 2147483647)], (1, (nat_lit 1, nat_lit 492, nat_lit 0, nat_lit 0)), (0, (nat_lit 1, nat_lit 0, nat_lit 0, nat_lit 0)), 0, 19), ([((nat_lit 1, nat_lit 496, nat_lit 0, nat_lit 0), 1, 2147483647)], (1, (nat_lit 4, nat_lit 492, nat_lit 0, nat_lit 0)), (0, (nat_lit 1, nat_lit 0, nat_lit 0, nat_lit 0)), 6, 6), ([((nat_lit 1, nat_lit 696, nat_lit 0, nat_lit 0), 1, 2147483647)], (1, (nat_lit 1, nat_lit 692, nat_lit 0, nat_lit 0)), (0, (nat_lit 1, nat_lit 0, nat_lit 0, nat_lit 0)), 0, 19), ([((nat_lit 1, nat_lit 696, nat_lit 0, nat_lit 0), 1, 2147483647)], (1, (nat_lit 4, nat_lit 692, nat_lit 1, nat_lit 0)), (0, (nat_lit 1, nat_lit 0, nat_lit 0, nat_lit 0)), 6, 6), ([((nat_lit 1, nat_lit 896, nat_lit 0, nat_lit 0), 1, 2147483647)], (1, (nat_lit 1, nat_lit 892, nat_lit 0, nat_lit 0)), (0, (nat_lit 1, nat_lit 0, nat_lit 0, nat_lit 0)), 0, 19), ([((nat_lit 1, nat_lit 896, nat_lit 0, nat_lit 0), 1, 2147483647)], (1, (nat_lit 4, nat_lit 892, nat_lit 2, nat_lit 0)), (0, (nat_lit 1, nat_lit 0, nat_lit 0, nat_lit 0)), 6, 6), ([((nat_lit 1, nat_lit 1096, nat_lit 0, nat_lit 0), 1, 2147483647)], (1, (nat_lit 1, nat_lit 1092, nat_lit 0, nat_lit 0)), (0, (nat_lit 1, nat_lit 0, nat_lit 0, nat_lit 0)), 0, 19), ([((nat_lit 1, nat_lit 1096, nat_lit 0, nat_lit 0), 1, 2147483647)], (1, (nat_lit 4, nat_lit 1092, nat_lit 3, nat_lit 0)), (0, (nat_lit 1, nat_lit 0, nat_lit 0, nat_lit 0)), 6, 6), ([((nat_lit 1, nat_lit 15, nat_lit 0, nat_lit 0), 14, 15)], (1, (nat_lit 1, nat_lit 16, nat_lit 0, nat_lit 0)), (0, (nat_lit 1, nat_lit 0, nat_lit 0, nat_lit 0)), 0, 7), ([((nat_lit 1, nat_lit 15, nat_lit 0, nat_lit 0), 19, 19)], (1, (nat_lit 1, nat_lit 16, nat_lit 0, nat_lit 0)), (0, (nat_lit 1, nat_lit 0, nat_lit 0, nat_lit 0)), 0, 7), ([((nat_lit 1, nat_lit 15, nat_lit 0, nat_lit 0), 14, 14)], (1, (nat_lit 1, nat_lit 3, nat_lit 0, nat_lit 0)), (1, (nat_lit 1, nat_lit 17, nat_lit 0, nat_lit 0)), 1, 3), ([((nat_lit 1, nat_lit 489, nat_lit 0, nat_lit 0), 1, 2147483647)], (1, (nat_lit 1, nat_lit 15, nat_lit 0, nat_lit 0)), (0, (nat_lit 1, nat_lit 0, nat_lit 0, nat_lit 0)), 14, 14)]
/-- rows of lines: the class's, the reference's -/
def ab_row6 (f : Nat → Int32) (l : Nat) : Prop := (0 ≤ (f (4 * l + 1)).toInt ∧ (f (4 * l + 1)).toInt ≤ 20) ∧ (0 ≤ (f (4 * l + 2)).toInt ∧ (f (4 * l + 2)).toInt ≤ 3) ∧ (0 ≤ (f (4 * l + 3)).toInt ∧ (f (4 * l + 3)).toInt ≤ 3) ∧ ((f (4 * l)).toInt ≤ 5 → (f (4 * l + 1)).toInt ≤ 3)
def ab_row7 (f : Nat → Int32) (o l : Nat) : Prop := (0 ≤ (f (o + 4 * l + 1)).toInt ∧ (f (o + 4 * l + 1)).toInt ≤ 20) ∧ ((f (o + 4 * l)).toInt ≤ 6 → (f (o + 4 * l + 1)).toInt ≤ 3) ∧
  ((f (o + 4 * l)).toInt = 4 → 0 ≤ (f (o + 4 * l + 2)).toInt ∧ (f (o + 4 * l + 2)).toInt ≤ 3) ∧ ((f (o + 4 * l)).toInt = 5 → (0 ≤ (f (o + 4 * l + 2)).toInt ∧ (f (o + 4 * l + 2)).toInt ≤ 3) ∧ 0 ≤ (f (o + 4 * l + 3)).toInt ∧ (f (o + 4 * l + 3)).toInt ≤ 2) ∧
  ((f (o + 4 * l)).toInt = 6 → (0 ≤ (f (o + 4 * l + 2)).toInt ∧ (f (o + 4 * l + 2)).toInt ≤ 2) ∧ 0 ≤ (f (o + 4 * l + 3)).toInt ∧ (f (o + 4 * l + 3)).toInt ≤ 3)
def ab_sr (f : Nat → Int32) : Prop := ∀ t, t < 4 → ∀ l, l < 20 → ab_row7 f (540 + 200 * t) l
/-- a block of the reference's row that may be the first one -/
def ab_gd (f : Nat → Int32) : Prop := (∀ j, j < 1580 → ab_tv [] [] (.int (f j)) (ab_ke 37 j)) ∧ (∀ (cA : ClassId) (c : ab_Cl), c ∈ ab_c37 → ab_hd [] (.inl (cA, 7900, .inl f)) c) ∧ ab_sr f
def ab_cn : List Nat := [4, 502, 702, 902, 1102]
/-- words of a whole row: 3, 4 rows of lines below i are good; 5 not more than i places aren't 0; 6 counters of all blocks at most i; 7 places below i are 0; 8 block i is good; 9 what a new heap leaves is of its types -/
def ab_Pq (t : Nat) (e : va_E) (i : Int) : Prop := ∃ (cA : ClassId) (n : Nat) (f : Nat → Int32), e = .inl (cA, n, .inl f) ∧ (match t with
  | 3 => ∀ l : Nat, (l : Int) < i → 4 * l + 3 < n ∧ ab_row6 f l
  | 4 => ∀ l : Nat, (l : Int) < i → 4 * l + 3 < n ∧ ab_row7 f 0 l
  | 5 => (((List.range n).filter (fun j => f j != 0)).length : Int) ≤ i
  | 6 => n = 7900 ∧ ∀ b, b < 5 → ∀ c ∈ ab_cn, 0 ≤ (f (1580 * b + c)).toInt ∧ (f (1580 * b + c)).toInt ≤ i
  | 7 => ∀ l : Nat, (l : Int) < i → l < n ∧ f l = 0
  | 8 => n = 7900 ∧ ab_gd (fun j => f (1580 * i.toNat + j))
  | 9 => n = 7900 ∧ ∀ j, (8 ≤ j ∧ j ≤ 10) ∨ (20 ≤ j ∧ j < 420) ∨ (1270 ≤ j ∧ j < 1580) → ab_tv [] [] (.int (f j)) (ab_ke 37 j)
  | _ => False)
/-- a cell's value at a place: (0, j) a field, (1, i) an element, (2, _) the length; (3 and on, i) 0, if the word holds -/
noncomputable def ab_rd (e : va_E) (t : Nat) (i : Int) : Option Value := match t, e with
  | 0, .inr (_, vs) => vs[i.toNat]?
  | 1, .inl (_, n, .inl f) => if 0 ≤ i ∧ i < (n : Int) then some (.int (f i.toNat)) else none
  | 1, .inl (_, n, .inr (.inr (.inr (.inr g)))) => if 0 ≤ i ∧ i < (n : Int) then some (va_rf (g i.toNat)) else none
  | 2, .inl (_, n, _) => if n < 2147483648 then some (.int (Int32.ofNat n)) else none
  | t9 + 3, e9 => @ite _ (ab_Pq (t9 + 3) e9 i) (Classical.propDecidable _) (some (.int 0)) none
  | _, _ => none
theorem ab_rd_q {e : va_E} {t : Nat} {i : Int} (h : ab_Pq (t + 3) e i) : ab_rd e (t + 3) i = some (.int 0) := by
  show @ite _ (ab_Pq (t + 3) e i) (Classical.propDecidable _) (some (Value.int 0)) none = _
  rw [if_pos h]
theorem ab_rd_q2 {e : va_E} {t : Nat} {i : Int} {v : Value} (h : ab_rd e (t + 3) i = some v) : ab_Pq (t + 3) e i ∧ v = .int 0 := by
  have h' : @ite _ (ab_Pq (t + 3) e i) (Classical.propDecidable _) (some (Value.int 0)) none = some v := h
  by_cases hp : ab_Pq (t + 3) e i
  · rw [if_pos hp] at h'
    exact ⟨hp, (Option.some.inj h').symm⟩
  · rw [if_neg hp] at h'
    cases h'
/-- the counters' bound is told from name 0 on -/
def ab_ki (rv : List Int) (k : ab_Key) : Option Int := match k.1 with
  | 0 => some (k.2.1 : Int)
  | 1 => ab_ev rv k.2
  | 2 => some 0
  | 6 => (match rv[0]?, ab_ev rv k.2 with
    | some n, some x => some (n + x)
    | _, _ => none)
  | _ => ab_ev rv k.2
theorem ab_ki_mono {rv rv' : List Int} (h : rv <+: rv') {k : ab_Key} {x : Int} (hx : ab_ki rv k = some x) : ab_ki rv' k = some x := by
  obtain ⟨t, f⟩ := k
  unfold ab_ki at hx ⊢
  match t, hx with
  | 0, hx => exact hx
  | 1, hx => exact ab_ev_mono h hx
  | 2, hx => exact hx
  | 3, hx => exact ab_ev_mono h hx
  | 4, hx => exact ab_ev_mono h hx
  | 5, hx => exact ab_ev_mono h hx
  | 6, hx =>
    have hx' : (match rv[0]?, ab_ev rv f with
      | some n, some x => some (n + x)
      | _, _ => none) = some x := hx
    show (match rv'[0]?, ab_ev rv' f with
      | some n, some x => some (n + x)
      | _, _ => none) = some x
    cases h1 : rv[0]? with
    | none => rw [h1] at hx'; cases hx'
    | some n9 =>
      cases h2 : ab_ev rv f with
      | none => rw [h1, h2] at hx'; cases hx'
      | some x9 =>
        rw [h1, h2] at hx'
        rw [ab_pre h h1, ab_ev_mono h h2]
        exact hx'
  | t + 7, hx => exact ab_ev_mono h hx
def ab_fact (rv : List Int) (sv : List (Nat × Nat)) (xa : List Nat) (ws : va_W) (f : ab_F) : Prop :=
  ∃ (q : Nat × Nat) (e : va_E) (i : Int) (v : Value), sv[f.1]? = some q ∧ ws[q.1]? = some (q.2, e) ∧ ab_ki rv f.2.1 = some i ∧ ab_rd e f.2.1.1 i = some v ∧ ab_ok rv sv xa v f.2.2
