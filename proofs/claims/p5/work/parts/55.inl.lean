/-! ===== a method's body run in the caller's own description ===== -/
/-- the end of a run, if the instruction is a return -/
def ab_ret1 (y : Nat) (S : ab_S) : Option ab_X := match ee_pg y S.1 with
  | some i => bif Nat.blt S.1 (nat_lit 1100) then (match S.2.2.1 with
    | [] => bif ab_ra y i.1 (none, S.2.2.2.1, S.2.2.2.2.1, S.2.2.2.2.2) then some (none, S.2.2.2.1, S.2.2.2.2.1, S.2.2.2.2.2) else none
    | [a] => bif ab_ra y i.1 (some a, S.2.2.2.1, S.2.2.2.2.1, S.2.2.2.2.2) then some (some a, S.2.2.2.1, S.2.2.2.2.1, S.2.2.2.2.2) else none
    | _ => none) else none
  | none => none
def ab_adI (stp : ab_S → Option (List ab_S)) : List ab_S → Option (List ab_S)
  | [] => some []
  | S :: l => match stp S with
    | some L => (match ab_adI stp l with
      | some L2 => some (ab_app L L2)
      | none => none)
    | none => none
def ab_rx (cls : Nat → List ab_Cl) (mask X : Nat) (stp : ab_S → Option (List ab_S)) (ht : Nat → List ab_Hn) (y : Nat) : Nat → List ab_S → List ab_X → Option (List ab_X)
  | _, [], out => some out
  | 0, _ :: _, _ => none
  | n + 1, S :: w, out => match ab_ret1 y S with
    | some x => ab_rx cls mask X stp ht y n w (x :: out)
    | none => (match ab_adI stp (ab_hps cls mask X (ht S.1) [S]) with
      | some L => ab_rx cls mask X stp ht y n (ab_app L w) out
      | none => none)
theorem ab_rx_sub {cls : Nat → List ab_Cl} {mask X : Nat} {stp : ab_S → Option (List ab_S)} {ht : Nat → List ab_Hn} {y : Nat} : ∀ {n : Nat} {ws : List ab_S} {out xs : List ab_X}, ab_rx cls mask X stp ht y n ws out = some xs → ∀ x ∈ out, x ∈ xs
  | n, [], out, xs, h, x, hx => by
    have h' : some out = some xs := by cases n <;> exact h
    rw [← Option.some.inj h']
    exact hx
  | 0, _ :: _, _, _, h, _, _ => by cases h
  | n + 1, S :: w, out, xs, h, x, hx => by
    unfold ab_rx at h
    split at h
    · exact ab_rx_sub h x (List.mem_cons_of_mem _ hx)
    · split at h
      · exact ab_rx_sub h x hx
      · cases h
section IN
variable {cls : Nat → List ab_Cl} {p : Program} {l : Launch} {e : Env} {R : Room} {s : State} {m : MethodId} {args : Array Value} {below : List Frame} {meth : Method} {c : Code} {D : va_G} {dA : Nat → ClassId} {xa : List Nat} {xt : ee_X} {B : Nat} {y : Nat}
variable {ke : Option Nat} {ks0 : List Nat} {ws0 : va_W} {rv0 : List Int} {sv0 : List (Nat × Nat)} {mask X : Nat} {xs : List ab_X}
theorem ab_ret1_snd (hy1 : 1 ≤ y) (hC : ee_C p s m args meth c D dA xa xt B y) (hyM : y < ee_nM) {S : ab_S} {x : ab_X} (h : ab_ret1 y S = some x) (hx : x ∈ xs) :
    ab_WS cls p l e R s m args below meth c (mq below (ct_Post D B (ab_Qx cls dA xa ke ks0 ws0 rv0 sv0 mask X xs)) args s (fun q => B ≤ q)) D dA xa B rv0 (sv0, (ks0, ws0), ab_wm mask, ke, X, ab_ph ke ks0 ws0) y S := by
  unfold ab_ret1 at h
  split at h
  · rename_i i hi
    obtain ⟨op, a, b, n⟩ := i
    cases hb : Nat.blt S.1 (nat_lit 1100) with
    | false => rw [ee_cf hb] at h; cases h
    | true =>
      rw [ee_ct hb] at h
      have hlt : S.1 < 1100 := Nat.le_of_ble_eq_true hb
      have hsc := ee_sc_all hyM hlt hi
      have fin : ∀ (o : Option ab_A), ab_ra y op (o, S.2.2.2.1, S.2.2.2.2.1, S.2.2.2.2.2) = true → x = (o, S.2.2.2.1, S.2.2.2.2.1, S.2.2.2.2.2) → S.2.2.1 = (match o with
          | none => []
          | some a => [a]) → ab_WS cls p l e R s m args below meth c (mq below (ct_Post D B (ab_Qx cls dA xa ke ks0 ws0 rv0 sv0 mask X xs)) args s (fun q => B ≤ q)) D dA xa B rv0 (sv0, (ks0, ws0), ab_wm mask, ke, X, ab_ph ke ks0 ws0) y S := by
        intro o hra hxo hst ks ws rv sv H locs ls vs hr0 hs0 hG hP hD hS hl hv
        rw [hst] at hv
        have mkq : ∀ v, ab_an rv sv xa v o → ab_Qx cls dA xa ke ks0 ws0 rv0 sv0 mask X xs v ws (S.2.2.2.2.1 + (ab_ph ke ks ws / 1024 - ab_ph ke ks0 ws0 / 1024)) (S.2.2.2.2.2 + (ab_ph ke ks ws - ab_ph ke ks0 ws0)) := fun v han => by
          refine ⟨x, ks, rv, sv, hx, hr0, hs0, ?_, ?_, ?_, ?_⟩
          · rw [hxo]; exact hG
          · rw [hxo]; exact han
          · rw [hxo]
          · rw [hxo]
        unfold ab_ra at hra
        cases o with
        | none =>
          dsimp only at hra
          rw [Bool.and_eq_true] at hra
          have e1 : op = 53 := Nat.eq_of_beq_eq_true hra.1
          subst e1
          match vs, hv with
          | [], _ => exact sm_53 hy1 hC hsc (Nat.eq_of_beq_eq_true hra.2) hP hD hS (mkq none trivial)
        | some av =>
          match vs, hv with
          | [v], ⟨hok, _⟩ =>
            match av, hra, hok, mkq with
            | .inl f, hra, hok, mkq =>
              dsimp only at hra
              rw [Bool.and_eq_true, Bool.or_eq_true, Bool.and_eq_true] at hra
              have e1 : op = 51 := Nat.eq_of_beq_eq_true hra.1
              subst e1
              obtain ⟨xv, rfl, hxv⟩ := id hok
              refine sm_51 hy1 hC hsc ?_ hP hD hS (mkq _ hok)
              rcases hra.2 with h9 | ⟨h9, h8⟩
              · exact Or.inl (Nat.eq_of_beq_eq_true h9)
              · refine Or.inr ⟨Nat.eq_of_beq_eq_true h9, ?_⟩
                split at h8
                · rename_i p9 hp9
                  have b9 := ab_bd_in hG.1 hp9 hxv
                  rw [Bool.and_eq_true, decide_eq_true_eq, decide_eq_true_eq] at h8
                  rcases (show xv.toInt = 0 ∨ xv.toInt = 1 by omega) with h7 | h7
                  · exact Or.inl (Int32.toInt_inj.mp h7)
                  · exact Or.inr (Int32.toInt_inj.mp h7)
                · cases h8
            | .inr w9, hra, hok, mkq =>
              dsimp only at hra
              rw [Bool.or_eq_true, Bool.and_eq_true, Bool.and_eq_true, Bool.and_eq_true, Bool.and_eq_true] at hra
              rcases hra with ⟨h9, h8, h7⟩ | ⟨h9, h8, h7⟩
              · have e1 : op = 52 := Nat.eq_of_beq_eq_true h9
                subst e1
                exact sm_52 hy1 hC hsc (ab_ok_ref h7 hok) (Nat.eq_of_beq_eq_true h8) hP hD hS (mkq _ hok)
              · have e1 : op = 74 := Nat.eq_of_beq_eq_true h9
                subst e1
                match w9, h7, hok, mkq with
                | .inr 1, _, hok, mkq =>
                  obtain ⟨xl, rfl⟩ := id hok
                  exact sm_74 hy1 hC hsc (Nat.eq_of_beq_eq_true h8) hP hD hS (mkq _ hok)
      split at h
      · rename_i hst
        cases hc : ab_ra y op (none, S.2.2.2.1, S.2.2.2.2.1, S.2.2.2.2.2) with
        | false => dsimp only at h; rw [ee_cf hc] at h; cases h
        | true =>
          dsimp only at h
          rw [ee_ct hc] at h
          exact fin none hc (Option.some.inj h).symm hst
      · rename_i av hst
        cases hc : ab_ra y op (some av, S.2.2.2.1, S.2.2.2.2.1, S.2.2.2.2.2) with
        | false => dsimp only at h; rw [ee_cf hc] at h; cases h
        | true =>
          dsimp only at h
          rw [ee_ct hc] at h
          exact fin (some av) hc (Option.some.inj h).symm hst
      · cases h
  · cases h
theorem ab_adI_snd {stp : ab_S → Option (List ab_S)} {Q : State → Prop} {svB : ab_B} (hstp : ∀ S L, stp S = some L → (∀ S' ∈ L, ab_WS cls p l e R s m args below meth c Q D dA xa B rv0 svB y S') → ab_WS cls p l e R s m args below meth c Q D dA xa B rv0 svB y S) : ∀ {L0 L : List ab_S}, ab_adI stp L0 = some L → (∀ S ∈ L, ab_WS cls p l e R s m args below meth c Q D dA xa B rv0 svB y S) → ∀ S ∈ L0, ab_WS cls p l e R s m args below meth c Q D dA xa B rv0 svB y S
  | [], L, h, k, S, hS => by cases hS
  | S0 :: L0, L, h, k, S, hS => by
    unfold ab_adI at h
    split at h
    · rename_i L1 h1
      split at h
      · rename_i L2 h2
        cases h
        rw [ab_app_eq] at k
        rcases List.mem_cons.mp hS with rfl | hS
        · exact hstp _ _ h1 (fun S' h' => k S' (List.mem_append_left _ h'))
        · exact ab_adI_snd hstp h2 (fun S' h' => k S' (List.mem_append_right _ h')) S hS
      · cases h
    · cases h
theorem ab_rx_snd {stp : ab_S → Option (List ab_S)} {ht : Nat → List ab_Hn} (hy1 : 1 ≤ y) (hC : ee_C p s m args meth c D dA xa xt B y) (hyM : y < ee_nM)
    (hstp : ∀ S L, stp S = some L → (∀ S' ∈ L, ab_WS cls p l e R s m args below meth c (mq below (ct_Post D B (ab_Qx cls dA xa ke ks0 ws0 rv0 sv0 mask X xs)) args s (fun q => B ≤ q)) D dA xa B rv0 (sv0, (ks0, ws0), ab_wm mask, ke, X, ab_ph ke ks0 ws0) y S') → ab_WS cls p l e R s m args below meth c (mq below (ct_Post D B (ab_Qx cls dA xa ke ks0 ws0 rv0 sv0 mask X xs)) args s (fun q => B ≤ q)) D dA xa B rv0 (sv0, (ks0, ws0), ab_wm mask, ke, X, ab_ph ke ks0 ws0) y S) :
    ∀ {n : Nat} {ws : List ab_S} {out : List ab_X}, ab_rx cls mask X stp ht y n ws out = some xs → ∀ S ∈ ws, ab_WS cls p l e R s m args below meth c (mq below (ct_Post D B (ab_Qx cls dA xa ke ks0 ws0 rv0 sv0 mask X xs)) args s (fun q => B ≤ q)) D dA xa B rv0 (sv0, (ks0, ws0), ab_wm mask, ke, X, ab_ph ke ks0 ws0) y S
  | n, [], _, _, S, hS => by cases hS
  | 0, _ :: _, _, h, _, _ => by cases h
  | n + 1, S0 :: w, out, h, S, hS => by
    unfold ab_rx at h
    split at h
    · rename_i x hx
      rcases List.mem_cons.mp hS with rfl | hS
      · exact ab_ret1_snd hy1 hC hyM hx (ab_rx_sub h x List.mem_cons_self)
      · exact ab_rx_snd hy1 hC hyM hstp h S hS
    · split at h
      · rename_i L hL
        have h9 := ab_rx_snd hy1 hC hyM hstp h
        rw [ab_app_eq] at h9
        rcases List.mem_cons.mp hS with rfl | hS
        · exact ab_hps_snd rfl rfl (ab_adI_snd hstp hL (fun S' h' => h9 S' (List.mem_append_left _ h'))) _ List.mem_cons_self
        · exact h9 S (List.mem_append_right _ hS)
      · cases h
end IN
