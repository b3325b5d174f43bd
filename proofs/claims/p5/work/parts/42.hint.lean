/-! ===== hints: the same state, told in cases ===== -/
/-- name i is at most z, or above it -/
def ab_hsp (i : Nat) (z : Int) : ab_S → Option (List ab_S)
  | (pc, lo, st, h, r) => match ee_nth h.1 i with
    | some q => some (ab_set h (i, 1, 0) q.1 z (fun h' => [(pc, lo, st, h', r)]) [] ++ ab_set h (i, 1, 0) (z + 1) q.2 (fun h' => [(pc, lo, st, h', r)]) [])
    | none => none
/-- name i is one of n + 1 numbers from z on, or another: told one by one -/
def ab_hen (i : Nat) : Nat → Int → ab_S → Option (List ab_S)
  | 0, _, S => some [S]
  | n + 1, z, (pc, lo, st, h, r) => match ee_nth h.1 i with
    | some q => ab_g z fun z => (ab_set h (i, 1, 0) q.1 z (fun h' => some [(pc, lo, st, h', r)]) (some [])).bind fun l1 => (ab_set h (i, 1, 0) (z + 1) q.2 (fun h' => ab_hen i n (z + 1) (pc, lo, st, h', r)) (some [])).bind fun l2 => some (l1 ++ l2)
    | none => none
section HI
variable {cls : Nat → List ab_Cl} {p : Program} {l : Launch} {e : Env} {R : Room} {s : State} {m : MethodId} {args : Array Value} {below : List Frame} {meth : Method} {c : Code} {Q : State → Prop} {D : va_G} {dA : Nat → ClassId} {xa : List Nat} {xt : ee_X} {B : Nat} {rv0 : List Int} {sv0 : ab_B} {y : Nat}
theorem ab_ev_id {rv : List Int} {i : Nat} {z : Int} (h : rv[i]? = some z) : ab_ev rv (i, 1, 0) = some z := by
  unfold ab_ev
  rw [if_neg (show ¬ ((1 : Int) = 0) by decide), h]
  simp
theorem ab_hsp_snd {i : Nat} {z : Int} {S : ab_S} {L : List ab_S} (h : ab_hsp i z S = some L) (k : ∀ S ∈ L, ab_WS cls p l e R s m args below meth c Q D dA xa B rv0 sv0 y S) : ab_WS cls p l e R s m args below meth c Q D dA xa B rv0 sv0 y S := by
  obtain ⟨pc, lo, st, hh, r⟩ := S
  unfold ab_hsp at h
  dsimp only at h
  split at h
  · rename_i q hq
    cases h
    rw [ee_nth_eq] at hq
    intro ks ws rv sv H locs ls vs hr0 hs0 hG hP hD hS hl hv
    obtain ⟨x, x1, x2, x3⟩ := hG.1.2 _ _ hq
    by_cases hx : x ≤ z
    · obtain ⟨h', g1, e1⟩ := ab_set_snd (k := fun h' => [(pc, lo, st, h', r)]) (imp := ([] : List ab_S)) hG (ab_ev_id x1) (lo := q.1) (hi := z) x2 hx
      refine k (pc, lo, st, h', r) (List.mem_append_left _ ?_) ks ws rv sv H locs ls vs hr0 hs0 g1 hP hD hS hl hv
      rw [e1]
      exact List.mem_cons_self
    · obtain ⟨h', g1, e1⟩ := ab_set_snd (k := fun h' => [(pc, lo, st, h', r)]) (imp := ([] : List ab_S)) hG (ab_ev_id x1) (lo := z + 1) (hi := q.2) (by omega) x3
      refine k (pc, lo, st, h', r) (List.mem_append_right _ ?_) ks ws rv sv H locs ls vs hr0 hs0 g1 hP hD hS hl hv
      rw [e1]
      exact List.mem_cons_self
  · cases h
/-- facts, differences and open places: fewer facts, fewer differences say less -/
theorem ab_hff_snd {pc : Nat} {lo st : List ab_A} {iv : List (Int × Int)} {rl rl' : List (Nat × Nat × Int)} {rk : List Nat} {fs fs' : List ab_F} {dt : List (Nat × ab_Key)} {r : Nat × Nat} (h1 : ∀ q ∈ rl', q ∈ rl) (h2 : ∀ f ∈ fs', f ∈ fs) (k : ab_WS cls p l e R s m args below meth c Q D dA xa B rv0 sv0 y (pc, lo, st, (iv, rl', rk, fs', dt), r)) : ab_WS cls p l e R s m args below meth c Q D dA xa B rv0 sv0 y (pc, lo, st, (iv, rl, rk, fs, dt), r) := by
  intro ks ws rv sv H locs ls vs hr0 hs0 hG hP hD hS hl hv
  exact k ks ws rv sv H locs ls vs hr0 hs0 ⟨hG.1, fun q hq => hG.2.1 q (h1 q hq), hG.2.2.1, fun f hf => hG.2.2.2.1 f (h2 f hf), hG.2.2.2.2.1, hG.2.2.2.2.2⟩ hP hD hS hl hv
theorem ab_hen_snd {i : Nat} : ∀ {n : Nat} {z : Int} {S : ab_S} {L : List ab_S}, ab_hen i n z S = some L → (∀ S ∈ L, ab_WS cls p l e R s m args below meth c Q D dA xa B rv0 sv0 y S) → ab_WS cls p l e R s m args below meth c Q D dA xa B rv0 sv0 y S
  | 0, z, S, L, h, k => by
    cases h
    exact k S List.mem_cons_self
  | n + 1, z, (pc, lo, st, hh, r), L, h, k => by
    unfold ab_hen at h
    split at h
    · rename_i q hq
      rw [ab_g_eq, Option.bind_eq_some_iff] at h
      obtain ⟨l1, a1, h⟩ := h
      rw [Option.bind_eq_some_iff] at h
      obtain ⟨l2, a2, h⟩ := h
      cases h
      rw [ee_nth_eq] at hq
      intro ks ws rv sv H locs ls vs hr0 hs0 hG hP hD hS hl hv
      obtain ⟨x, x1, x2, x3⟩ := hG.1.2 _ _ hq
      by_cases hx : x ≤ z
      · obtain ⟨h', g1, e1⟩ := ab_set_snd (k := fun h' => some [(pc, lo, st, h', r)]) (imp := (some [] : Option (List ab_S))) hG (ab_ev_id x1) (lo := q.1) (hi := z) x2 hx
        rw [e1] at a1
        cases a1
        exact k (pc, lo, st, h', r) (List.mem_append_left _ List.mem_cons_self) ks ws rv sv H locs ls vs hr0 hs0 g1 hP hD hS hl hv
      · obtain ⟨h', g1, e1⟩ := ab_set_snd (k := fun h' => ab_hen i n (z + 1) (pc, lo, st, h', r)) (imp := (some [] : Option (List ab_S))) hG (ab_ev_id x1) (lo := z + 1) (hi := q.2) (by omega) x3
        rw [e1] at a2
        exact ab_hen_snd a2 (fun S hS => k S (List.mem_append_right _ hS)) ks ws rv sv H locs ls vs hr0 hs0 g1 hP hD hS hl hv
    · cases h
end HI
