/-! ===== the clauses ===== -/
def ab_c3r : List ab_Cl := [([((nat_lit 0, nat_lit 4, nat_lit 0, nat_lit 0), 2, 2)], (1, (nat_lit 0, nat_lit 7, nat_lit 0, nat_lit 0)), (0, (nat_lit 1, nat_lit 0, nat_lit 0, nat_lit 0)), 0, 99)]
def ab_c14 : List ab_Cl := [([((nat_lit 0, nat_lit 4, nat_lit 0, nat_lit 0), 1, 2)], (1, (nat_lit 3, nat_lit 3, nat_lit 7, nat_lit 1)), (0, (nat_lit 1, nat_lit 0, nat_lit 0, nat_lit 0)), 0, 3)]
def ab_c18 : List ab_Cl := [([], (1, (nat_lit 0, nat_lit 3, nat_lit 0, nat_lit 0)), (0, (nat_lit 1, nat_lit 0, nat_lit 0, nat_lit 0)), 0, 7)]
def ab_c29 : List ab_Cl := [([], (1, (nat_lit 2, nat_lit 2, nat_lit 0, nat_lit 0)), (1, (nat_lit 0, nat_lit 3, nat_lit 0, nat_lit 0)), 0, 1048576), ([], (1, (nat_lit 2, nat_lit 4, nat_lit 0, nat_lit 0)), (1, (nat_lit 0, nat_lit 5, nat_lit 0, nat_lit 0)), 0, 2097152), ([((nat_lit 0, nat_lit 5, nat_lit 0, nat_lit 0), 1, 2147483647)], (1, (nat_lit 0, nat_lit 5, nat_lit 0, nat_lit 0)), (0, (nat_lit 1, nat_lit 0, nat_lit 0, nat_lit 0)), 1024, 2147483647), ([((nat_lit 0, nat_lit 5, nat_lit 0, nat_lit 0), 1025, 2147483647)], (1, (nat_lit 0, nat_lit 5, nat_lit 0, nat_lit 0)), (0, (nat_lit 1, nat_lit 0, nat_lit 0, nat_lit 0)), 2048, 2147483647), ([((nat_lit 0, nat_lit 5, nat_lit 0, nat_lit 0), 2049, 2147483647)], (1, (nat_lit 0, nat_lit 5, nat_lit 0, nat_lit 0)), (0, (nat_lit 1, nat_lit 0, nat_lit 0, nat_lit 0)), 4096, 2147483647), ([((nat_lit 0, nat_lit 5, nat_lit 0, nat_lit 0), 4097, 2147483647)], (1, (nat_lit 0, nat_lit 5, nat_lit 0, nat_lit 0)), (0, (nat_lit 1, nat_lit 0, nat_lit 0, nat_lit 0)), 8192, 2147483647), ([((nat_lit 0, nat_lit 5, nat_lit 0, nat_lit 0), 8193, 2147483647)], (1, (nat_lit 0, nat_lit 5, nat_lit 0, nat_lit 0)), (0, (nat_lit 1, nat_lit 0, nat_lit 0, nat_lit 0)), 16384, 2147483647), ([((nat_lit 0, nat_lit 5, nat_lit 0, nat_lit 0), 16385, 2147483647)], (1, (nat_lit 0, nat_lit 5, nat_lit 0, nat_lit 0)), (0, (nat_lit 1, nat_lit 0, nat_lit 0, nat_lit 0)), 32768, 2147483647), ([((nat_lit 0, nat_lit 5, nat_lit 0, nat_lit 0), 32769, 2147483647)], (1, (nat_lit 0, nat_lit 5, nat_lit 0, nat_lit 0)), (0, (nat_lit 1, nat_lit 0, nat_lit 0, nat_lit 0)), 65536, 2147483647), ([((nat_lit 0, nat_lit 5, nat_lit 0, nat_lit 0), 65537, 2147483647)], (1, (nat_lit 0, nat_lit 5, nat_lit 0, nat_lit 0)), (0, (nat_lit 1, nat_lit 0, nat_lit 0, nat_lit 0)), 131072, 2147483647), ([((nat_lit 0, nat_lit 5, nat_lit 0, nat_lit 0), 131073, 2147483647)], (1, (nat_lit 0, nat_lit 5, nat_lit 0, nat_lit 0)), (0, (nat_lit 1, nat_lit 0, nat_lit 0, nat_lit 0)), 262144, 2147483647), ([((nat_lit 0, nat_lit 5, nat_lit 0, nat_lit 0), 262145, 2147483647)], (1, (nat_lit 0, nat_lit 5, nat_lit 0, nat_lit 0)), (0, (nat_lit 1, nat_lit 0, nat_lit 0, nat_lit 0)), 524288, 2147483647), ([((nat_lit 0, nat_lit 5, nat_lit 0, nat_lit 0), 524289, 2147483647)], (1, (nat_lit 0, nat_lit 5, nat_lit 0, nat_lit 0)), (0, (nat_lit 1, nat_lit 0, nat_lit 0, nat_lit 0)), 1048576, 2147483647), ([((nat_lit 0, nat_lit 5, nat_lit 0, nat_lit 0), 1048577, 2147483647)], (1, (nat_lit 0, nat_lit 5, nat_lit 0, nat_lit 0)), (0, (nat_lit 1, nat_lit 0, nat_lit 0, nat_lit 0)), 2097152, 2147483647), ([((nat_lit 2, nat_lit 2, nat_lit 0, nat_lit 0), 1, 2147483647)], (1, (nat_lit 2, nat_lit 2, nat_lit 0, nat_lit 0)), (0, (nat_lit 1, nat_lit 0, nat_lit 0, nat_lit 0)), 1024, 2147483647), ([((nat_lit 2, nat_lit 2, nat_lit 0, nat_lit 0), 1025, 2147483647)], (1, (nat_lit 2, nat_lit 2, nat_lit 0, nat_lit 0)), (0, (nat_lit 1, nat_lit 0, nat_lit 0, nat_lit 0)), 2048, 2147483647), ([((nat_lit 2, nat_lit 2, nat_lit 0, nat_lit 0), 2049, 2147483647)], (1, (nat_lit 2, nat_lit 2, nat_lit 0, nat_lit 0)), (0, (nat_lit 1, nat_lit 0, nat_lit 0, nat_lit 0)), 4096, 2147483647), ([((nat_lit 2, nat_lit 2, nat_lit 0, nat_lit 0), 4097, 2147483647)], (1, (nat_lit 2, nat_lit 2, nat_lit 0, nat_lit 0)), (0, (nat_lit 1, nat_lit 0, nat_lit 0, nat_lit 0)), 8192, 2147483647), ([((nat_lit 2, nat_lit 2, nat_lit 0, nat_lit 0), 8193, 2147483647)], (1, (nat_lit 2, nat_lit 2, nat_lit 0, nat_lit 0)), (0, (nat_lit 1, nat_lit 0, nat_lit 0, nat_lit 0)), 16384, 2147483647), ([((nat_lit 2, nat_lit 2, nat_lit 0, nat_lit 0), 16385, 2147483647)], (1, (nat_lit 2, nat_lit 2, nat_lit 0, nat_lit 0)), (0, (nat_lit 1, nat_lit 0, nat_lit 0, nat_lit 0)), 32768, 2147483647), ([((nat_lit 2, nat_lit 2, nat_lit 0, nat_lit 0), 32769, 2147483647)], (1, (nat_lit 2, nat_lit 2, nat_lit 0, nat_lit 0)), (0, (nat_lit 1, nat_lit 0, nat_lit 0, nat_lit 0)), 65536, 2147483647), ([((nat_lit 2, nat_lit 2, nat_lit 0, nat_lit 0), 65537, 2147483647)], (1, (nat_lit 2, nat_lit 2, nat_lit 0, nat_lit 0)), (0, (nat_lit 1, nat_lit 0, nat_lit 0, nat_lit 0)), 131072, 2147483647), ([((nat_lit 2, nat_lit 2, nat_lit 0, nat_lit 0), 131073, 2147483647)], (1, (nat_lit 2, nat_lit 2, nat_lit 0, nat_lit 0)), (0, (nat_lit 1, nat_lit 0, nat_lit 0, nat_lit 0)), 262144, 2147483647), ([((nat_lit 2, nat_lit 2, nat_lit 0, nat_lit 0), 262145, 2147483647)], (1, (nat_lit 2, nat_lit 2, nat_lit 0, nat_lit 0)), (0, (nat_lit 1, nat_lit 0, nat_lit 0, nat_lit 0)), 524288, 2147483647), ([((nat_lit 2, nat_lit 2, nat_lit 0, nat_lit 0), 524289, 2147483647)], (1, (nat_lit 2, nat_lit 2, nat_lit 0, nat_lit 0)), (0, (nat_lit 1, nat_lit 0, nat_lit 0, nat_lit 0)), 1048576, 2147483647), ([((nat_lit 2, nat_lit 4, nat_lit 0, nat_lit 0), 1, 2147483647)], (1, (nat_lit 2, nat_lit 4, nat_lit 0, nat_lit 0)), (0, (nat_lit 1, nat_lit 0, nat_lit 0, nat_lit 0)), 1024, 2147483647), ([((nat_lit 2, nat_lit 4, nat_lit 0, nat_lit 0), 1025, 2147483647)], (1, (nat_lit 2, nat_lit 4, nat_lit 0, nat_lit 0)), (0, (nat_lit 1, nat_lit 0, nat_lit 0, nat_lit 0)), 2048, 2147483647), ([((nat_lit 2, nat_lit 4, nat_lit 0, nat_lit 0), 2049, 2147483647)], (1, (nat_lit 2, nat_lit 4, nat_lit 0, nat_lit 0)), (0, (nat_lit 1, nat_lit 0, nat_lit 0, nat_lit 0)), 4096, 2147483647), ([((nat_lit 2, nat_lit 4, nat_lit 0, nat_lit 0), 4097, 2147483647)], (1, (nat_lit 2, nat_lit 4, nat_lit 0, nat_lit 0)), (0, (nat_lit 1, nat_lit 0, nat_lit 0, nat_lit 0)), 8192, 2147483647), ([((nat_lit 2, nat_lit 4, nat_lit 0, nat_lit 0), 8193, 2147483647)], (1, (nat_lit 2, nat_lit 4, nat_lit 0, nat_lit 0)), (0, (nat_lit 1, nat_lit 0, nat_lit 0, nat_lit 0)), 16384, 2147483647), ([((nat_lit 2, nat_lit 4, nat_lit 0, nat_lit 0), 16385, 2147483647)], (1, (nat_lit 2, nat_lit 4, nat_lit 0, nat_lit 0)), (0, (nat_lit 1, nat_lit 0, nat_lit 0, nat_lit 0)), 32768, 2147483647), ([((nat_lit 2, nat_lit 4, nat_lit 0, nat_lit 0), 32769, 2147483647)], (1, (nat_lit 2, nat_lit 4, nat_lit 0, nat_lit 0)), (0, (nat_lit 1, nat_lit 0, nat_lit 0, nat_lit 0)), 65536, 2147483647), ([((nat_lit 2, nat_lit 4, nat_lit 0, nat_lit 0), 65537, 2147483647)], (1, (nat_lit 2, nat_lit 4, nat_lit 0, nat_lit 0)), (0, (nat_lit 1, nat_lit 0, nat_lit 0, nat_lit 0)), 131072, 2147483647), ([((nat_lit 2, nat_lit 4, nat_lit 0, nat_lit 0), 131073, 2147483647)], (1, (nat_lit 2, nat_lit 4, nat_lit 0, nat_lit 0)), (0, (nat_lit 1, nat_lit 0, nat_lit 0, nat_lit 0)), 262144, 2147483647), ([((nat_lit 2, nat_lit 4, nat_lit 0, nat_lit 0), 262145, 2147483647)], (1, (nat_lit 2, nat_lit 4, nat_lit 0, nat_lit 0)), (0, (nat_lit 1, nat_lit 0, nat_lit 0, nat_lit 0)), 524288, 2147483647), ([((nat_lit 2, nat_lit 4, nat_lit 0, nat_lit 0), 524289, 2147483647)], (1, (nat_lit 2, nat_lit 4, nat_lit 0, nat_lit 0)), (0, (nat_lit 1, nat_lit 0, nat_lit 0, nat_lit 0)), 1048576, 2147483647), ([((nat_lit 2, nat_lit 4, nat_lit 0, nat_lit 0), 1048577, 2147483647)], (1, (nat_lit 2, nat_lit 4, nat_lit 0, nat_lit 0)), (0, (nat_lit 1, nat_lit 0, nat_lit 0, nat_lit 0)), 2097152, 2147483647)]
def ab_cls (κ : Nat) : List ab_Cl := bif Nat.beq κ (nat_lit 3) then ab_c3r else bif Nat.beq κ (nat_lit 14) then ab_c14 else bif Nat.beq κ (nat_lit 18) then ab_c18 else bif Nat.beq κ (nat_lit 29) then ab_c29 else bif Nat.beq κ (nat_lit 37) then ab_c37 else []
theorem ab_cls_in {κ : Nat} {cc : ab_Cl} (h : cc ∈ ab_cls κ) : (κ = 3 ∧ cc ∈ ab_c3r) ∨ (κ = 14 ∧ cc ∈ ab_c14) ∨ (κ = 18 ∧ cc ∈ ab_c18) ∨ (κ = 29 ∧ cc ∈ ab_c29) ∨ (κ = 37 ∧ cc ∈ ab_c37) := by
  unfold ab_cls at h
  cases c3 : Nat.beq κ (nat_lit 3) with
  | true =>
    rw [ee_ct c3] at h
    exact Or.inl ⟨Nat.eq_of_beq_eq_true c3, h⟩
  | false =>
  rw [ee_cf c3] at h
  cases c14 : Nat.beq κ (nat_lit 14) with
  | true =>
    rw [ee_ct c14] at h
    exact Or.inr (Or.inl ⟨Nat.eq_of_beq_eq_true c14, h⟩)
  | false =>
  rw [ee_cf c14] at h
  cases c18 : Nat.beq κ (nat_lit 18) with
  | true =>
    rw [ee_ct c18] at h
    exact Or.inr (Or.inr (Or.inl ⟨Nat.eq_of_beq_eq_true c18, h⟩))
  | false =>
  rw [ee_cf c18] at h
  cases c29 : Nat.beq κ (nat_lit 29) with
  | true =>
    rw [ee_ct c29] at h
    exact Or.inr (Or.inr (Or.inr (Or.inl ⟨Nat.eq_of_beq_eq_true c29, h⟩)))
  | false =>
  rw [ee_cf c29] at h
  cases c37 : Nat.beq κ (nat_lit 37) with
  | true =>
    rw [ee_ct c37] at h
    exact Or.inr (Or.inr (Or.inr (Or.inr ⟨Nat.eq_of_beq_eq_true c37, h⟩)))
  | false =>
  rw [ee_cf c37] at h
  cases h
theorem ab_hnc : ∀ κ, ab_nc κ = true → ab_cls κ = [] := by
  intro κ h
  cases hc : ab_cls κ with
  | nil => rfl
  | cons cc l =>
    exfalso
    rcases ab_cls_in (show cc ∈ ab_cls κ by rw [hc]; exact List.mem_cons_self) with ⟨rfl, -⟩ | ⟨rfl, -⟩ | ⟨rfl, -⟩ | ⟨rfl, -⟩ | ⟨rfl, -⟩ <;> cases h
def ab_okb (κ : Nat) (L : List ab_Cl) : Bool := L.all fun cc => (ab_rgs cc).all fun rr => (bif Nat.beq rr.1 (nat_lit 2) || Nat.beq rr.1 (nat_lit 3) then (match ab_ko κ with
  | some q => (match ee_nth q.2 rr.2.1 with
    | some (.inr (.inl mm)) => !Nat.beq rr.1 (nat_lit 3) || Nat.beq (mm / 2) (nat_lit 17)
    | _ => false)
  | none => false) else true) && (!Nat.beq rr.1 (nat_lit 4) || Nat.beq κ (nat_lit 37))
theorem ab_ok_all {κ : Nat} {cc : ab_Cl} (h : cc ∈ ab_cls κ) {rr : ab_R} (hr : rr ∈ ab_rgs cc) : (rr.1 = 2 ∨ rr.1 = 3 → ∃ ci ts mm, ab_ko κ = some (ci, ts) ∧ ts[rr.2.1]? = some (.inr (.inl mm)) ∧ (rr.1 = 3 → mm / 2 = 17)) ∧ (rr.1 = 4 → κ = 37) := by
  have hb : ∃ L, cc ∈ L ∧ ab_okb κ L = true := by
    rcases ab_cls_in h with ⟨rfl, hm⟩ | ⟨rfl, hm⟩ | ⟨rfl, hm⟩ | ⟨rfl, hm⟩ | ⟨rfl, hm⟩
    · exact ⟨_, hm, by decide +kernel⟩
    · exact ⟨_, hm, by decide +kernel⟩
    · exact ⟨_, hm, by decide +kernel⟩
    · exact ⟨_, hm, by decide +kernel⟩
    · exact ⟨_, hm, by decide +kernel⟩
  obtain ⟨L, hm, hb⟩ := hb
  have h2 := List.all_eq_true.mp (List.all_eq_true.mp hb cc hm) rr hr
  rw [Bool.and_eq_true] at h2
  refine ⟨fun h23 => ?_, fun h4 => ?_⟩
  · have hc : (Nat.beq rr.1 (nat_lit 2) || Nat.beq rr.1 (nat_lit 3)) = true := by
      rcases h23 with e | e <;> rw [e] <;> rfl
    have h3 := h2.1
    rw [ee_ct hc] at h3
    split at h3
    · rename_i q hq
      split at h3
      · rename_i mm hmm
        rw [ee_nth_eq] at hmm
        refine ⟨q.1, q.2, mm, hq, hmm, fun e3 => ?_⟩
        rw [e3] at h3
        exact Nat.eq_of_beq_eq_true (show Nat.beq (mm / 2) 17 = true from h3)
      · cases h3
    · cases h3
  · have h3 := h2.2
    rw [h4] at h3
    exact Nat.eq_of_beq_eq_true (show Nat.beq κ 37 = true from h3)
theorem ab_hcok : ab_cok ab_cls := fun κ cc h rr hr => ⟨fun e3 => by
  obtain ⟨ci, ts, mm, h1, h2, h3⟩ := (ab_ok_all h hr).1 (Or.inr e3)
  exact ⟨ci, ts, mm, h1, h2, h3 e3⟩, (ab_ok_all h hr).2⟩
theorem ab_hcok2 : ab_cok2 ab_cls := fun κ cc h rr hr h23 => by
  obtain ⟨ci, ts, mm, h1, h2, -⟩ := (ab_ok_all h hr).1 h23
  exact ⟨ci, ts, mm, h1, h2⟩
