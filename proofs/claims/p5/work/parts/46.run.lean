/-! ===== many steps: until places where it stops ===== -/
def ab_lp (wk : Nat → Bool) (cC cS : Nat) (hk : Nat → Nat) (y : Nat) (stop : Nat → Bool) : Nat → List ab_S → List ab_S → Option (List ab_S)
  | 0, [], out => some out
  | 0, _ :: _, _ => none
  | _ + 1, [], out => some out
  | n + 1, S :: w, out => bif stop S.1 then ab_lp wk cC cS hk y stop n w (S :: out) else match ee_pg y S.1 with
    | some i => bif Nat.blt S.1 (nat_lit 1100) then (match ab_step wk cC cS (hk S.1) i.1 i.2.1 i.2.2.1 i.2.2.2 S with
      | some L => ab_lp wk cC cS hk y stop n (L ++ w) out
      | none => none) else none
    | none => none
section RN
variable {cls : Nat → List ab_Cl} {p : Program} {l : Launch} {e : Env} {R : Room} {s : State} {m : MethodId} {args : Array Value} {below : List Frame} {meth : Method} {c : Code} {Q : State → Prop} {D : va_G} {dA : Nat → ClassId} {xa : List Nat} {xt : ee_X} {B : Nat} {rv0 : List Int} {sv0 : ab_B} {y : Nat}
theorem ab_lp_snd {cC cS : Nat} {hk : Nat → Nat} {stop : Nat → Bool} (hcap : cC + (6144 - sv0.2.2.2.2.2 / 1024) ≤ R.cells ∧ cS + (6291456 - sv0.2.2.2.2.2) ≤ R.slots) (hnc : ∀ κ, ab_nc κ = true → cls κ = []) (hcok : ab_cok cls) (hcok2 : ab_cok2 cls) (hC : ee_C p s m args meth c D dA xa xt B y) (hyM : y < ee_nM) :
    ∀ {n : Nat} {ws out O : List ab_S}, ab_lp sv0.2.2.1 cC cS hk y stop n ws out = some O → (∀ S ∈ O, ab_WS cls p l e R s m args below meth c Q D dA xa B rv0 sv0 y S) → (∀ S ∈ ws, ab_WS cls p l e R s m args below meth c Q D dA xa B rv0 sv0 y S) ∧ ∀ S ∈ out, ab_WS cls p l e R s m args below meth c Q D dA xa B rv0 sv0 y S
  | 0, [], out, O, h, k => by
    cases h
    exact ⟨fun S hS => (by cases hS), k⟩
  | 0, _ :: _, out, O, h, k => by cases h
  | n + 1, [], out, O, h, k => by
    cases h
    exact ⟨fun S hS => (by cases hS), k⟩
  | n + 1, S :: ws, out, O, h, k => by
    unfold ab_lp at h
    cases hst : stop S.1 with
    | true =>
      rw [ee_ct hst] at h
      obtain ⟨h1, h2⟩ := ab_lp_snd hcap hnc hcok hcok2 hC hyM h k
      refine ⟨fun S9 hS9 => ?_, fun S9 hS9 => h2 S9 (List.mem_cons_of_mem _ hS9)⟩
      rcases List.mem_cons.mp hS9 with rfl | hS9
      · exact h2 _ List.mem_cons_self
      · exact h1 S9 hS9
    | false =>
      rw [ee_cf hst] at h
      split at h
      · rename_i i hi
        cases hb : Nat.blt S.1 (nat_lit 1100) with
        | false => rw [ee_cf hb] at h; cases h
        | true =>
          rw [ee_ct hb] at h
          have hlt : S.1 < 1100 := Nat.le_of_ble_eq_true hb
          split at h
          · rename_i L hL
            obtain ⟨h1, h2⟩ := ab_lp_snd hcap hnc hcok hcok2 hC hyM h k
            refine ⟨fun S9 hS9 => ?_, h2⟩
            rcases List.mem_cons.mp hS9 with rfl | hS9
            · exact ab_step_snd hcap hnc hcok hcok2 hC (ee_sc_all hyM hlt hi) hL (fun S8 hS8 => h1 S8 (List.mem_append_left _ hS8))
            · exact h1 S9 (List.mem_append_right _ hS9)
          · cases h
      · cases h
end RN
