/-! ===== the engine: a machine over described heaps that the kernel can run ===== -/
abbrev ee_V : Type := (Nat × Nat) ⊕ (Nat ⊕ Nat)
abbrev ee_N : Type := (Nat × List ee_V) ⊕ (Nat × Nat × ee_V × List (Nat × ee_V))
abbrev ee_H : Type := Nat × List (List ee_N)
abbrev ee_S : Type := Nat × List ee_V × List ee_V × ee_H × Nat × Nat
abbrev ee_R : Type := Option ee_V × ee_H × Nat × Nat
/-- a number is computed before it is handed on -/
def ee_f {β : Type} (n : Nat) (k : Nat → β) : β := match n with
  | 0 => k (nat_lit 0)
  | m + 1 => k (Nat.succ m)
def ee_nth {α : Type} : List α → Nat → Option α
  | [], _ => none
  | a :: _, 0 => some a
  | _ :: l, n + 1 => ee_nth l n
def ee_upd {α : Type} : List α → Nat → α → Option (List α)
  | [], _, _ => none
  | _ :: l, 0, x => some (x :: l)
  | a :: l, n + 1, x => match ee_upd l n x with
    | none => none
    | some l' => some (a :: l')
def ee_len {α : Type} : List α → Nat
  | [] => nat_lit 0
  | _ :: l => Nat.succ (ee_len l)
def ee_snoc {α : Type} : List α → α → List α
  | [], x => [x]
  | a :: l, x => a :: ee_snoc l x
def ee_get (h : ee_H) (k : Nat) : Option ee_N := match ee_nth h.2 (Nat.div k (nat_lit 16)) with
  | none => none
  | some c => ee_nth c (Nat.mod k (nat_lit 16))
def ee_put (h : ee_H) (k : Nat) (nd : ee_N) : Option ee_H := match ee_nth h.2 (Nat.div k (nat_lit 16)) with
  | none => none
  | some c => match ee_upd c (Nat.mod k (nat_lit 16)) nd with
    | none => none
    | some c' => match ee_upd h.2 (Nat.div k (nat_lit 16)) c' with
      | none => none
      | some cs => some (h.1, cs)
def ee_new (h : ee_H) (nd : ee_N) : Option ee_H := bif Nat.beq (Nat.mod h.1 (nat_lit 16)) (nat_lit 0) then
    (bif Nat.beq (ee_len h.2) (Nat.div h.1 (nat_lit 16)) then ee_f (Nat.succ h.1) (fun n => some (n, ee_snoc h.2 [nd])) else none)
  else match ee_nth h.2 (Nat.div h.1 (nat_lit 16)) with
    | none => none
    | some c => bif Nat.beq (ee_len c) (Nat.mod h.1 (nat_lit 16)) then
        (match ee_upd h.2 (Nat.div h.1 (nat_lit 16)) (ee_snoc c nd) with
          | none => none
          | some cs => ee_f (Nat.succ h.1) (fun n => some (n, cs)))
      else none
def ee_at (d : ee_V) : List (Nat × ee_V) → Nat → ee_V
  | [], _ => d
  | q :: l, j => bif Nat.beq q.1 j then q.2 else ee_at d l j
def ee_ins : List (Nat × ee_V) → Nat → ee_V → Option (List (Nat × ee_V))
  | [], j, v => some [(j, v)]
  | q :: l, j, v => bif Nat.beq q.1 j then some ((j, v) :: l) else match ee_ins l j v with
    | none => none
    | some l' => some (q :: l')
def ee_del : List (Nat × ee_V) → Nat → Option (List (Nat × ee_V))
  | [], _ => some []
  | q :: l, j => match ee_del l j with
    | none => none
    | some l' => bif Nat.beq q.1 j then some l' else some (q :: l')
def ee_veq : ee_V → ee_V → Bool
  | .inl a, .inl b => Nat.beq a.1 b.1 && Nat.beq a.2 b.2
  | .inr (.inl a), .inr (.inl b) => Nat.beq a b
  | .inr (.inr a), .inr (.inr b) => Nat.beq a b
  | _, _ => false
/-- a store into an array: what is as the rest is not listed -/
def ee_ast (d : ee_V) (ov : List (Nat × ee_V)) (j : Nat) (v : ee_V) : Option (List (Nat × ee_V)) := bif ee_veq v d then ee_del ov j else ee_ins ov j v
/-- a copy of n places -/
def ee_cpy (d0 : ee_V) (o0 : List (Nat × ee_V)) (d : ee_V) : Nat → Nat → Nat → List (Nat × ee_V) → Option (List (Nat × ee_V))
  | 0, _, _, ov => some ov
  | n + 1, sp, dp, ov => match ee_ast d ov dp (ee_at d0 o0 sp) with
    | none => none
    | some ov' => ee_f (Nat.succ sp) fun sp' => ee_f (Nat.succ dp) fun dp' => ee_cpy d0 o0 d n sp' dp' ov'
def ee_isr : ee_V → Bool
  | .inl _ => false
  | .inr (.inl _) => true
  | .inr (.inr 0) => false
  | .inr (.inr (_ + 1)) => true
def ee_isv : ee_V → Bool
  | .inr (.inr 0) => false
  | _ => true
/-- int arithmetic: z is the place of 0 among the numbers 0 .. 2^32 - 1 -/
def ee_z (x : Int32) : Nat := (x.toInt + 2147483648).toNat
def ee_x (n : Nat) : Int32 := Int32.ofInt ((n : Int) - 2147483648)
def ee_iv {β : Type} (l u : Nat) (k : ee_V → β) : β := bif Nat.beq (Nat.div l (nat_lit 4294967296)) (Nat.div u (nat_lit 4294967296)) then
    ee_f (Nat.mod l (nat_lit 4294967296)) fun x => ee_f (Nat.mod u (nat_lit 4294967296)) fun y => k (.inl (x, y))
  else k (.inl (nat_lit 0, nat_lit 4294967295))
def ee_add {β : Type} (a b : Nat × Nat) (k : ee_V → β) : β := ee_f (Nat.add (Nat.add a.1 b.1) (nat_lit 2147483648)) fun l => ee_f (Nat.add (Nat.add a.2 b.2) (nat_lit 2147483648)) fun u => ee_iv l u k
def ee_sub {β : Type} (a b : Nat × Nat) (k : ee_V → β) : β := ee_f (Nat.sub (Nat.add a.1 (nat_lit 6442450944)) b.2) fun l => ee_f (Nat.sub (Nat.add a.2 (nat_lit 6442450944)) b.1) fun u => ee_iv l u k
def ee_ex {β : Type} (f : Int32 → Int32 → Int32) (a b : Nat × Nat) (k : ee_V → β) : β := bif Nat.beq a.1 a.2 && Nat.beq b.1 b.2 then ee_f (ee_z (f (ee_x a.1) (ee_x b.1))) (fun n => k (.inl (n, n))) else k (.inl (nat_lit 0, nat_lit 4294967295))
/-- the bits of a number that isn't negative -/
def ee_and {β : Type} (a b : Nat × Nat) (k : ee_V → β) : β := bif Nat.beq a.1 a.2 && Nat.beq b.1 b.2 then ee_f (ee_z (ee_x a.1 &&& ee_x b.1)) (fun n => k (.inl (n, n)))
  else bif Nat.beq b.1 b.2 && Nat.ble (nat_lit 2147483648) b.1 then k (.inl (nat_lit 2147483648, b.1)) else k (.inl (nat_lit 0, nat_lit 4294967295))
def ee_bin (op : Nat) (a b : Nat × Nat) (k : ee_V → Option ee_S) : Option ee_S :=
  bif Nat.ble op (nat_lit 12) then (bif Nat.beq op (nat_lit 10) then ee_add a b k else bif Nat.beq op (nat_lit 11) then ee_sub a b k else bif Nat.beq op (nat_lit 12) then ee_ex (· * ·) a b k else none)
  else bif Nat.ble op (nat_lit 15) then (bif Nat.beq op (nat_lit 13) then ee_and a b k else bif Nat.beq op (nat_lit 14) then ee_ex (· ||| ·) a b k else ee_ex (· ^^^ ·) a b k)
  else bif Nat.beq op (nat_lit 16) then ee_ex (fun x y => x <<< (y &&& 31)) a b k
  else bif Nat.beq op (nat_lit 17) then ee_ex (fun x y => x >>> (y &&& 31)) a b k
  else bif Nat.beq op (nat_lit 18) then ee_ex (fun x y => (x.toUInt32 >>> (y.toUInt32 &&& Int32.toUInt32 31)).toInt32) a b k
  else bif Nat.beq a.1 a.2 && (Nat.beq b.1 b.2 && !Nat.beq b.1 (nat_lit 2147483648)) then
    (bif Nat.beq op (nat_lit 19) then ee_ex (fun x y => x / y) a b k else bif Nat.beq op (nat_lit 20) then ee_ex (fun x y => x - x / y * y) a b k else none)
  else none
/-- compare: cond 0 eq, 1 ne, 2 lt, 3 ge, 4 gt, 5 le -/
def ee_lt (a b : Nat × Nat) : Option Bool := bif Nat.blt a.2 b.1 then some true else bif Nat.ble b.2 a.1 then some false else none
def ee_eq (a b : Nat × Nat) : Option Bool := bif Nat.beq a.1 a.2 && (Nat.beq b.1 b.2 && Nat.beq a.1 b.1) then some true else bif Nat.blt a.2 b.1 || Nat.blt b.2 a.1 then some false else none
def ee_not : Option Bool → Option Bool
  | none => none
  | some b => some (!b)
def ee_cmp (cond : Nat) (a b : Nat × Nat) : Option Bool := bif Nat.ble cond (nat_lit 1) then (bif Nat.beq cond (nat_lit 0) then ee_eq a b else ee_not (ee_eq a b))
  else bif Nat.ble cond (nat_lit 3) then (bif Nat.beq cond (nat_lit 2) then ee_lt a b else ee_not (ee_lt a b))
  else (bif Nat.beq cond (nat_lit 4) then ee_lt b a else ee_not (ee_lt b a))
def ee_o1 (a n : Nat) : ee_S → Option ee_S
  | (pc, lo, st, r) => match ee_nth lo a with
    | some (.inl q) => some (Nat.add pc n, lo, .inl q :: st, r)
    | _ => none
def ee_o2 (a n : Nat) : ee_S → Option ee_S
  | (pc, lo, st, r) => match ee_nth lo a with
    | some v => bif ee_isr v then some (Nat.add pc n, lo, v :: st, r) else none
    | none => none
def ee_o3 (a n : Nat) : ee_S → Option ee_S
  | (pc, lo, .inl q :: st, r) => match ee_upd lo a (.inl q) with
    | some lo' => some (Nat.add pc n, lo', st, r)
    | none => none
  | _ => none
def ee_o4 (a n : Nat) : ee_S → Option ee_S
  | (pc, lo, v :: st, r) => bif ee_isr v then (match ee_upd lo a v with
      | some lo' => some (Nat.add pc n, lo', st, r)
      | none => none) else none
  | _ => none
def ee_push (v : ee_V) (n : Nat) : ee_S → Option ee_S
  | (pc, lo, st, r) => some (Nat.add pc n, lo, v :: st, r)
def ee_o9 (a b n : Nat) : ee_S → Option ee_S
  | (pc, lo, st, r) => match ee_nth lo a with
    | some (.inl q) => ee_add q (b, b) fun v => match ee_upd lo a v with
      | some lo' => some (Nat.add pc n, lo', st, r)
      | none => none
    | _ => none
def ee_o10 (op n : Nat) : ee_S → Option ee_S
  | (pc, lo, .inl y :: .inl x :: st, r) => ee_bin op x y fun v => some (Nat.add pc n, lo, v :: st, r)
  | _ => none
def ee_o22 (n : Nat) : ee_S → Option ee_S
  | (pc, lo, v :: st, r) => bif ee_isv v then some (Nat.add pc n, lo, v :: v :: st, r) else none
  | _ => none
def ee_o23 (n : Nat) : ee_S → Option ee_S
  | (pc, lo, v :: w :: st, r) => bif ee_isv v && ee_isv w then some (Nat.add pc n, lo, v :: w :: v :: w :: st, r) else none
  | _ => none
def ee_o24 (n : Nat) : ee_S → Option ee_S
  | (pc, lo, v :: st, r) => bif ee_isv v then some (Nat.add pc n, lo, st, r) else none
  | _ => none
/-- fields: b is 64 * class + field -/
def ee_o25 (b n : Nat) : ee_S → Option ee_S
  | (pc, lo, .inr (.inl (k + 1)) :: st, h, r) => match ee_get h k with
    | some (.inl nd) => bif Nat.beq nd.1 (Nat.div b (nat_lit 64)) then (match ee_nth nd.2 (Nat.mod b (nat_lit 64)) with
        | some v => bif ee_isv v then some (Nat.add pc n, lo, v :: st, h, r) else none
        | none => none) else none
    | _ => none
  | _ => none
def ee_fit (kind : Nat) : ee_V → Bool
  | .inl q => bif Nat.beq kind (nat_lit 0) then true else bif Nat.beq kind (nat_lit 1) then (Nat.ble (nat_lit 2147483648) q.1 && Nat.ble q.2 (nat_lit 2147483649)) else false
  | .inr v => bif Nat.beq kind (nat_lit 2) then ee_isr (.inr v) else false
def ee_o26 (b n : Nat) : ee_S → Option ee_S
  | (pc, lo, v :: .inr (.inl (k + 1)) :: st, h, r) => match ee_get h k with
    | some (.inl nd) => bif Nat.beq nd.1 (Nat.div b (nat_lit 64)) && ee_fit (ee_fk b) v then (match ee_upd nd.2 (Nat.mod b (nat_lit 64)) v with
        | some fs => (match ee_put h k (.inl (nd.1, fs)) with
          | some h' => some (Nat.add pc n, lo, st, h', r)
          | none => none)
        | none => none) else none
    | _ => none
  | _ => none
/-- an index: one number, not negative, below n -/
def ee_ix (q : Nat × Nat) (n : Nat) : Bool := Nat.beq q.1 q.2 && (Nat.ble (nat_lit 2147483648) q.1 && Nat.blt (Nat.sub q.1 (nat_lit 2147483648)) n)
/-- loads: t the kind of the array (0 int, 2 boolean, 3 references) -/
def ee_kd (t want : Nat) : Bool := bif Nat.beq want (nat_lit 3) then Nat.ble (nat_lit 3) t else Nat.beq t want
def ee_o28 (xt : List (Option (List (Nat × Nat)))) (want n : Nat) : ee_S → Option ee_S
  | (pc, lo, .inl q :: .inr (.inl (k + 1)) :: st, h, r) => match ee_get h k with
    | some (.inr nd) => bif ee_kd nd.1 want && ee_ix q nd.2.1 then (ee_f (Nat.sub q.1 (nat_lit 2147483648)) fun j => match ee_at nd.2.2.1 nd.2.2.2 j with
        | .inl w => bif Nat.beq want (nat_lit 3) then none else some (Nat.add pc n, lo, .inl w :: st, h, r)
        | .inr w => bif Nat.beq want (nat_lit 3) && ee_isr (.inr w) then some (Nat.add pc n, lo, .inr w :: st, h, r) else none) else none
    | _ => none
  | (pc, lo, .inl q :: .inr (.inr (k + 1)) :: st, h, r) => match ee_nth xt k with
    | some (some L) => bif Nat.beq want (nat_lit 0) && ee_ix q (ee_len L) then (match ee_nth L (Nat.sub q.1 (nat_lit 2147483648)) with
        | some w => some (Nat.add pc n, lo, .inl w :: st, h, r)
        | none => none) else none
    | _ => none
  | _ => none
def ee_fitA (t : Nat) : ee_V → Bool
  | .inl q => bif Nat.beq t (nat_lit 0) then true else bif Nat.beq t (nat_lit 2) then (Nat.ble (nat_lit 2147483648) q.1 && Nat.ble q.2 (nat_lit 2147483649)) else false
  | .inr _ => false
/-- what may be stored in an array of kind t: null, or an object of its class -/
def ee_fitR (h : ee_H) (t : Nat) : ee_V → Bool
  | .inr (.inl 0) => true
  | .inr (.inl (k + 1)) => (match ee_get h k with
    | some (.inl nd) => Nat.beq (ee_ec t) nd.1
    | _ => false)
  | _ => false
def ee_o29 (want n : Nat) : ee_S → Option ee_S
  | (pc, lo, v :: .inl q :: .inr (.inl (k + 1)) :: st, h, r) => match ee_get h k with
    | some (.inr nd) => bif ee_kd nd.1 want && (ee_ix q nd.2.1 && (bif Nat.beq want (nat_lit 3) then ee_fitR h nd.1 v else ee_fitA nd.1 v)) then
        (ee_f (Nat.sub q.1 (nat_lit 2147483648)) fun j => match ee_ast nd.2.2.1 nd.2.2.2 j v with
          | some ov => (match ee_put h k (.inr (nd.1, nd.2.1, nd.2.2.1, ov)) with
            | some h' => some (Nat.add pc n, lo, st, h', r)
            | none => none)
          | none => none) else none
    | _ => none
  | _ => none
def ee_o34 (xt : List (Option (List (Nat × Nat)))) (n : Nat) : ee_S → Option ee_S
  | (pc, lo, .inr (.inl (k + 1)) :: st, h, r) => match ee_get h k with
    | some (.inr nd) => bif Nat.blt nd.2.1 (nat_lit 2147483648) then ee_f (Nat.add nd.2.1 (nat_lit 2147483648)) (fun j => some (Nat.add pc n, lo, .inl (j, j) :: st, h, r)) else none
    | _ => none
  | (pc, lo, .inr (.inr (k + 1)) :: st, h, r) => match ee_nth xt k with
    | some (some L) => bif Nat.blt (ee_len L) (nat_lit 2147483648) then ee_f (Nat.add (ee_len L) (nat_lit 2147483648)) (fun j => some (Nat.add pc n, lo, .inl (j, j) :: st, h, r)) else none
    | _ => none
  | _ => none
def ee_o35 (ci n : Nat) : ee_S → Option ee_S
  | (pc, lo, st, h, c, s) => match ee_df ci with
    | some fs => (match ee_new h (.inl (ci, fs)) with
      | some h' => ee_f (Nat.succ c) fun c' => ee_f (Nat.add s (ee_len fs)) fun s' => some (Nat.add pc n, lo, .inr (.inl (Nat.succ h.1)) :: st, h', c', s')
      | none => none)
    | none => none
def ee_dv (t : Nat) : ee_V := bif Nat.beq t (nat_lit 1) then .inr (.inr (nat_lit 0)) else bif Nat.ble (nat_lit 3) t then .inr (.inl (nat_lit 0)) else .inl (nat_lit 2147483648, nat_lit 2147483648)
def ee_o36 (t n : Nat) : ee_S → Option ee_S
  | (pc, lo, .inl q :: st, h, c, s) => bif Nat.ble t (nat_lit 6) && ee_ix q (nat_lit 1000000) then (ee_f (Nat.sub q.1 (nat_lit 2147483648)) fun N => match ee_new h (.inr (t, N, ee_dv t, [])) with
      | some h' => ee_f (Nat.succ c) fun c' => ee_f (Nat.add s N) fun s' => some (Nat.add pc n, lo, .inr (.inl (Nat.succ h.1)) :: st, h', c', s')
      | none => none) else none
  | _ => none
def ee_o38 (d n : Nat) : ee_S → Option ee_S
  | (pc, lo, .inr (.inl (_ + 1)) :: st, r) => bif Nat.blt (nat_lit 0) d && Nat.ble (ee_len st) (nat_lit 8) then some (Nat.add pc n, lo, st, r) else none
  | _ => none
/-- the first n of a list (the last of them first), and the rest -/
def ee_take : Nat → List ee_V → List ee_V → Option (List ee_V × List ee_V)
  | 0, st, acc => some (acc, st)
  | _ + 1, [], _ => none
  | n + 1, v :: st, acc => bif ee_isv v then ee_take n st (v :: acc) else none
def ee_o39 (call : Nat → List ee_V → ee_H → Option ee_R) (inst : Bool) (virt : Bool) (y n : Nat) : ee_S → Option ee_S
  | (pc, lo, st, h, c, s) => match ee_take (bif inst then Nat.succ (ee_np y) else ee_np y) st [] with
    | none => none
    | some (As, st') => bif Nat.ble (ee_len st') (nat_lit 8) && (bif inst then (match As with
          | .inr (.inl (k + 1)) :: _ => (bif virt then (match ee_get h k with
              | some (.inl nd) => Nat.beq nd.1 (ee_yc y)
              | _ => false) else true)
          | _ => false) else true) then
        (match call y As h with
          | some (some v, h', c', s') => bif ee_isv v then ee_f (Nat.add c c') fun c1 => ee_f (Nat.add s s') fun s1 => some (Nat.add pc n, lo, v :: st', h', c1, s1) else none
          | some (none, h', c', s') => ee_f (Nat.add c c') fun c1 => ee_f (Nat.add s s') fun s1 => some (Nat.add pc n, lo, st', h', c1, s1)
          | none => none) else none
def ee_sg (q : Nat × Nat) : Bool := Nat.beq q.1 q.2 && Nat.ble (nat_lit 2147483648) q.1
def ee_o43 (d n : Nat) : ee_S → Option ee_S
  | (pc, lo, .inl q :: .inl dp :: .inr (.inl (k1 + 1)) :: .inl sp :: .inr (.inl (k0 + 1)) :: st, h, r) => match ee_get h k0, ee_get h k1 with
    | some (.inr a0), some (.inr a1) => bif Nat.beq a0.1 (nat_lit 0) && (Nat.beq a1.1 (nat_lit 0) && (ee_sg q && (ee_sg dp && (ee_sg sp && (Nat.ble (Nat.add (Nat.sub sp.1 (nat_lit 2147483648)) (Nat.sub q.1 (nat_lit 2147483648))) a0.2.1
          && (Nat.ble (Nat.add (Nat.sub dp.1 (nat_lit 2147483648)) (Nat.sub q.1 (nat_lit 2147483648))) a1.2.1 && (Nat.blt (nat_lit 0) d && Nat.ble (ee_len st) (nat_lit 8)))))))) then
        (ee_f (Nat.sub sp.1 (nat_lit 2147483648)) fun sp' => ee_f (Nat.sub dp.1 (nat_lit 2147483648)) fun dp' => match ee_cpy a0.2.2.1 a0.2.2.2 a1.2.2.1 (Nat.sub q.1 (nat_lit 2147483648)) sp' dp' a1.2.2.2 with
          | some ov => (match ee_put h k1 (.inr (a1.1, a1.2.1, a1.2.2.1, ov)) with
            | some h' => some (Nat.add pc n, lo, st, h', r)
            | none => none)
          | none => none) else none
    | _, _ => none
  | _ => none
def ee_o44 (cond tgt n : Nat) : ee_S → Option ee_S
  | (pc, lo, .inl y :: .inl x :: st, r) => match ee_cmp cond x y with
    | some true => some (tgt, lo, st, r)
    | some false => some (Nat.add pc n, lo, st, r)
    | none => none
  | _ => none
def ee_o45 (cond tgt n : Nat) : ee_S → Option ee_S
  | (pc, lo, .inl x :: st, r) => match ee_cmp cond x (nat_lit 2147483648, nat_lit 2147483648) with
    | some true => some (tgt, lo, st, r)
    | some false => some (Nat.add pc n, lo, st, r)
    | none => none
  | _ => none
def ee_o46 (nul : Bool) (tgt n : Nat) : ee_S → Option ee_S
  | (pc, lo, .inr (.inl 0) :: st, r) => bif nul then some (tgt, lo, st, r) else some (Nat.add pc n, lo, st, r)
  | (pc, lo, .inr (.inl (_ + 1)) :: st, r) => bif nul then some (Nat.add pc n, lo, st, r) else some (tgt, lo, st, r)
  | _ => none
def ee_o48 (tgt : Nat) : ee_S → Option ee_S
  | (_, lo, st, r) => some (tgt, lo, st, r)
/-- a switch: lowest number, how many, where the rest goes, where each goes -/
def ee_o49 (sw : Nat × Nat × List Nat) : ee_S → Option ee_S
  | (_, lo, .inl q :: st, r) => bif Nat.beq q.1 q.2 && (Nat.ble sw.1 q.1 && Nat.blt q.1 (Nat.add sw.1 (ee_len sw.2.2))) then (match ee_nth sw.2.2 (Nat.sub q.1 sw.1) with
      | some t => some (t, lo, st, r)
      | none => none)
    else bif Nat.blt q.2 sw.1 || Nat.ble (Nat.add sw.1 (ee_len sw.2.2)) q.1 then some (sw.2.1, lo, st, r) else none
  | _ => none
def ee_lk : List (Nat × Nat) → Nat → Nat → Nat
  | [], _, d => d
  | q :: l, x, d => bif Nat.beq q.1 x then q.2 else ee_lk l x d
def ee_o50 (sw : Nat × List (Nat × Nat)) : ee_S → Option ee_S
  | (_, lo, .inl q :: st, r) => bif Nat.beq q.1 q.2 then ee_f (ee_lk sw.2 q.1 sw.1) (fun t => some (t, lo, st, r)) else none
  | _ => none
/-- Math.min -/
def ee_o55 (d n : Nat) : ee_S → Option ee_S
  | (pc, lo, .inl y :: .inl x :: st, r) => bif Nat.beq y.1 y.2 && (Nat.beq x.1 x.2 && (Nat.blt (nat_lit 0) d && Nat.ble (ee_len st) (nat_lit 8))) then (bif Nat.blt y.1 x.1 then some (Nat.add pc n, lo, .inl y :: st, r) else some (Nat.add pc n, lo, .inl x :: st, r)) else none
  | _ => none
/-- the reference's copies(from, to): blocks of 1580 places -/
def ee_keep (T : Nat) : List (Nat × ee_V) → Option (List (Nat × ee_V))
  | [] => some []
  | q :: l => match ee_keep T l with
    | none => none
    | some l' => bif Nat.ble T q.1 && Nat.blt q.1 (Nat.add T (nat_lit 1580)) then some l' else some (q :: l')
def ee_move (F T : Nat) : List (Nat × ee_V) → Option (List (Nat × ee_V))
  | [] => some []
  | q :: l => match ee_move F T l with
    | none => none
    | some l' => bif Nat.ble F q.1 && Nat.blt q.1 (Nat.add F (nat_lit 1580)) then ee_f (Nat.add (Nat.sub q.1 F) T) (fun k => some ((k, q.2) :: l')) else some l'
def ee_app : List (Nat × ee_V) → List (Nat × ee_V) → Option (List (Nat × ee_V))
  | [], m => some m
  | q :: l, m => match ee_app l m with
    | none => none
    | some l' => some (q :: l')
def ee_cop : List ee_V → ee_H → Option ee_R
  | [.inr (.inl (k + 1)), .inl f, .inl t], h => match ee_get h k with
    | some (.inl nd) => (match ee_nth nd.2 (nat_lit 0) with
      | some (.inr (.inl (ka + 1))) => (match ee_get h ka with
        | some (.inr a) => bif Nat.beq nd.1 (nat_lit 11) && (Nat.beq a.1 (nat_lit 0) && (Nat.beq a.2.1 (nat_lit 7900) && (Nat.beq f.1 f.2 && (Nat.beq t.1 t.2 && (Nat.ble (nat_lit 2147483648) f.1 && (Nat.ble (nat_lit 2147483648) t.1 && (Nat.ble f.1 (nat_lit 2147483652) && (Nat.ble t.1 (nat_lit 2147483652) && !Nat.beq f.1 t.1)))))))) then
            (ee_f (Nat.mul (nat_lit 1580) (Nat.sub f.1 (nat_lit 2147483648))) fun F => ee_f (Nat.mul (nat_lit 1580) (Nat.sub t.1 (nat_lit 2147483648))) fun T => match ee_keep T a.2.2.2, ee_move F T a.2.2.2 with
              | some l, some m => (match ee_app l m with
                | some ov => (match ee_put h ka (.inr (a.1, a.2.1, a.2.2.1, ov)) with
                  | some h' => some (none, h', nat_lit 0, nat_lit 0)
                  | none => none)
                | none => none)
              | _, _ => none) else none
        | _ => none)
      | _ => none)
    | _ => none
  | _, _ => none
def ee_step (call : Nat → List ee_V → ee_H → Option ee_R) (xt : List (Option (List (Nat × Nat)))) (d : Nat) (i : ee_I) (S : ee_S) : Option ee_S :=
  bif Nat.blt i.1 (nat_lit 25) then
    (bif Nat.blt i.1 (nat_lit 10) then
      (bif Nat.blt i.1 (nat_lit 5) then
        (bif Nat.blt i.1 (nat_lit 3) then (bif Nat.beq i.1 (nat_lit 1) then ee_o1 i.2.1 i.2.2.2 S else bif Nat.beq i.1 (nat_lit 2) then ee_o2 i.2.1 i.2.2.2 S else none)
          else (bif Nat.beq i.1 (nat_lit 3) then ee_o3 i.2.1 i.2.2.2 S else ee_o4 i.2.1 i.2.2.2 S))
        else (bif Nat.blt i.1 (nat_lit 8) then (bif Nat.beq i.1 (nat_lit 5) then ee_push (.inl (i.2.1, i.2.1)) i.2.2.2 S else bif Nat.beq i.1 (nat_lit 6) then ee_push (.inl (i.2.2.1, i.2.2.1)) i.2.2.2 S else ee_push (.inr (.inr (Nat.succ i.2.2.1))) i.2.2.2 S)
          else (bif Nat.beq i.1 (nat_lit 8) then ee_push (.inr (.inl (nat_lit 0))) i.2.2.2 S else ee_o9 i.2.1 i.2.2.1 i.2.2.2 S)))
      else (bif Nat.ble i.1 (nat_lit 20) then ee_o10 i.1 i.2.2.2 S else (bif Nat.beq i.1 (nat_lit 22) then ee_o22 i.2.2.2 S else bif Nat.beq i.1 (nat_lit 23) then ee_o23 i.2.2.2 S else bif Nat.beq i.1 (nat_lit 24) then ee_o24 i.2.2.2 S else none)))
  else bif Nat.blt i.1 (nat_lit 38) then
    (bif Nat.blt i.1 (nat_lit 28) then (bif Nat.beq i.1 (nat_lit 25) then ee_o25 i.2.2.1 i.2.2.2 S else bif Nat.beq i.1 (nat_lit 26) then ee_o26 i.2.2.1 i.2.2.2 S else ee_push (.inr (.inr (Nat.succ i.2.2.1))) i.2.2.2 S)
      else bif Nat.blt i.1 (nat_lit 31) then (bif Nat.beq i.1 (nat_lit 28) then ee_o28 xt (nat_lit 0) i.2.2.2 S else bif Nat.beq i.1 (nat_lit 29) then ee_o29 (nat_lit 0) i.2.2.2 S else ee_o28 xt (nat_lit 3) i.2.2.2 S)
      else bif Nat.blt i.1 (nat_lit 34) then (bif Nat.beq i.1 (nat_lit 31) then ee_o29 (nat_lit 3) i.2.2.2 S else bif Nat.beq i.1 (nat_lit 32) then ee_o28 xt (nat_lit 2) i.2.2.2 S else ee_o29 (nat_lit 2) i.2.2.2 S)
      else (bif Nat.beq i.1 (nat_lit 34) then ee_o34 xt i.2.2.2 S else bif Nat.beq i.1 (nat_lit 35) then ee_o35 i.2.2.1 i.2.2.2 S else bif Nat.beq i.1 (nat_lit 36) then ee_o36 i.2.1 i.2.2.2 S else ee_o36 i.2.2.1 i.2.2.2 S))
  else bif Nat.blt i.1 (nat_lit 44) then
    (bif Nat.blt i.1 (nat_lit 41) then (bif Nat.beq i.1 (nat_lit 38) then ee_o38 d i.2.2.2 S else bif Nat.beq i.1 (nat_lit 39) then ee_o39 call true false i.2.2.1 i.2.2.2 S else ee_o39 call true true i.2.2.1 i.2.2.2 S)
      else (bif Nat.beq i.1 (nat_lit 43) then ee_o43 d i.2.2.2 S else ee_o39 call false false i.2.2.1 i.2.2.2 S))
  else bif Nat.blt i.1 (nat_lit 47) then (bif Nat.beq i.1 (nat_lit 44) then ee_o44 i.2.1 i.2.2.1 i.2.2.2 S else bif Nat.beq i.1 (nat_lit 45) then ee_o45 i.2.1 i.2.2.1 i.2.2.2 S else ee_o46 true i.2.2.1 i.2.2.2 S)
  else bif Nat.blt i.1 (nat_lit 50) then (bif Nat.beq i.1 (nat_lit 47) then ee_o46 false i.2.2.1 i.2.2.2 S else bif Nat.beq i.1 (nat_lit 48) then ee_o48 i.2.2.1 S else ee_o49 (ee_ts i.2.1) S)
  else (bif Nat.beq i.1 (nat_lit 50) then ee_o50 (ee_ls i.2.1) S else bif Nat.beq i.1 (nat_lit 54) then ee_push (.inl (i.2.2.1, i.2.2.1)) i.2.2.2 S else bif Nat.beq i.1 (nat_lit 55) then ee_o55 d i.2.2.2 S else none)
def ee_ret (y op : Nat) : ee_S → Option ee_R
  | (_, _, [], r) => bif Nat.beq op (nat_lit 53) && Nat.beq (ee_rk y) (nat_lit 0) then some (none, r) else none
  | (_, _, [.inl q], r) => bif Nat.beq op (nat_lit 51) && (Nat.beq (ee_rk y) (nat_lit 1) || (Nat.beq (ee_rk y) (nat_lit 2) && (Nat.ble (nat_lit 2147483648) q.1 && Nat.ble q.2 (nat_lit 2147483649)))) then some (some (.inl q), r) else none
  | (_, _, [.inr v], r) => bif Nat.beq op (nat_lit 52) && (Nat.beq (ee_rk y) (nat_lit 3) && ee_isr (.inr v)) then some (some (.inr v), r) else none
  | _ => none
def ee_loop (call : Nat → List ee_V → ee_H → Option ee_R) (xt : List (Option (List (Nat × Nat)))) (d y : Nat) : Nat → ee_S → Option ee_R
  | 0, _ => none
  | f + 1, (pc, r) => ee_f pc fun pc => bif Nat.blt pc (nat_lit 1100) then (match ee_pg y pc with
    | none => none
    | some i => bif Nat.ble (nat_lit 51) i.1 && Nat.ble i.1 (nat_lit 53) then ee_ret y i.1 (pc, r) else match ee_step call xt d i (pc, r) with
      | none => none
      | some S => ee_loop call xt d y f S) else none
def ee_pad : List ee_V → Nat → List ee_V
  | [], n => List.replicate n (.inr (.inr (nat_lit 0)))
  | a :: l, n => a :: ee_pad l (Nat.pred n)
def ee_run (xt : List (Option (List (Nat × Nat)))) : Nat → Nat → List ee_V → ee_H → Option ee_R
  | 0, _, _, _ => none
  | d + 1, y, As, h => bif Nat.beq y ee_yk then ee_cop As h else bif Nat.blt y ee_nM && Nat.beq (ee_len As) (ee_na y) then ee_loop (ee_run xt d) xt d y (nat_lit 1000000) (nat_lit 0, ee_pad As (ee_ml y), [], h, nat_lit 0, nat_lit 0) else none
def ee_go (call : Nat → List ee_V → ee_H → Option ee_R) (xt : List (Option (List (Nat × Nat)))) (d y stop : Nat) : Nat → ee_S → Option ee_S
  | 0, _ => none
  | f + 1, (pc, r) => ee_f pc fun pc => bif Nat.blt pc (nat_lit 1100) then (match ee_pg y pc with
    | none => none
    | some i => match ee_step call xt d i (pc, r) with
      | none => none
      | some S => bif Nat.beq S.1 stop then some S else ee_go call xt d y stop f S) else none
