/-! ===== the law's start: both are made; the row of the reference and the Explorer are told ===== -/
def lw_S0 : ab_S := (nat_lit 0, [.inr (.inr (nat_lit 2)), .inr (.inr (nat_lit 0)), .inr (.inr (nat_lit 0)), .inr (.inr (nat_lit 0))], [], ([(.ofNat (nat_lit 0), .ofNat (nat_lit 0))], [], [], [], []), nat_lit 0, nat_lit 0)
def lw_Kp : List ab_K := [kk_137_0, kk_138_0, kk_139_0, kk_140_0, kk_141_0]
def lw_iy (pc : Nat) : Nat := bif Nat.blt pc (nat_lit 66) then (bif Nat.blt pc (nat_lit 63) then (bif Nat.blt pc (nat_lit 2) then (bif Nat.beq pc (nat_lit 1) then nat_lit 1 else nat_lit 0) else (bif Nat.beq pc (nat_lit 2) then nat_lit 1 else nat_lit 0)) else (bif Nat.blt pc (nat_lit 64) then (bif Nat.beq pc (nat_lit 63) then nat_lit 1 else nat_lit 0) else (bif Nat.blt pc (nat_lit 65) then (bif Nat.beq pc (nat_lit 64) then nat_lit 1 else nat_lit 0) else (bif Nat.beq pc (nat_lit 65) then nat_lit 1 else nat_lit 0)))) else (bif Nat.blt pc (nat_lit 134) then (bif Nat.blt pc (nat_lit 67) then (bif Nat.beq pc (nat_lit 66) then nat_lit 1 else nat_lit 0) else (bif Nat.blt pc (nat_lit 70) then (bif Nat.beq pc (nat_lit 67) then nat_lit 1 else nat_lit 0) else (bif Nat.beq pc (nat_lit 70) then nat_lit 1 else nat_lit 0))) else (bif Nat.blt pc (nat_lit 135) then (bif Nat.beq pc (nat_lit 134) then nat_lit 1 else nat_lit 0) else (bif Nat.blt pc (nat_lit 136) then (bif Nat.beq pc (nat_lit 135) then nat_lit 1 else nat_lit 0) else (bif Nat.beq pc (nat_lit 136) then nat_lit 1 else nat_lit 0))))
def lw_ih (y pc : Nat) : List ab_Hn := bif Nat.beq y (nat_lit 1) then (bif Nat.blt pc (nat_lit 38) then (bif Nat.blt pc (nat_lit 27) then (bif Nat.beq pc (nat_lit 12) then [(nat_lit 11, ((nat_lit 1, nat_lit 0), []), nat_lit 1, .ofNat (nat_lit 0), ((nat_lit 0, nat_lit 0), []))] else []) else (bif Nat.beq pc (nat_lit 27) then [(nat_lit 11, ((nat_lit 1, nat_lit 0), []), nat_lit 3, .ofNat (nat_lit 0), ((nat_lit 0, nat_lit 0), []))] else [])) else (bif Nat.blt pc (nat_lit 49) then (bif Nat.beq pc (nat_lit 38) then [(nat_lit 11, ((nat_lit 1, nat_lit 0), [(nat_lit 0, nat_lit 11, .ofNat (nat_lit 0), .ofNat (nat_lit 0))]), nat_lit 9, .ofNat (nat_lit 0), ((nat_lit 0, nat_lit 0), [])), (nat_lit 11, ((nat_lit 1, nat_lit 0), [(nat_lit 0, nat_lit 12, .ofNat (nat_lit 0), .ofNat (nat_lit 0))]), nat_lit 10, .ofNat (nat_lit 0), ((nat_lit 0, nat_lit 0), [])), (nat_lit 11, ((nat_lit 1, nat_lit 0), []), nat_lit 6, .ofNat (nat_lit 0), ((nat_lit 0, nat_lit 0), []))] else []) else (bif Nat.beq pc (nat_lit 49) then [(nat_lit 11, ((nat_lit 1, nat_lit 0), [(nat_lit 0, nat_lit 0, .ofNat (nat_lit 0), .ofNat (nat_lit 0))]), nat_lit 20, .ofNat (nat_lit 0), ((nat_lit 0, nat_lit 0), [])), (nat_lit 11, ((nat_lit 1, nat_lit 0), []), nat_lit 19, .ofNat (nat_lit 0), ((nat_lit 0, nat_lit 0), []))] else []))) else bif Nat.beq y (nat_lit 66) then (bif Nat.beq pc (nat_lit 54) then [(nat_lit 11, ((nat_lit 1, nat_lit 0), [(nat_lit 0, nat_lit 11, .ofNat (nat_lit 0), .ofNat (nat_lit 0))]), nat_lit 9, .ofNat (nat_lit 0), ((nat_lit 0, nat_lit 0), [])), (nat_lit 11, ((nat_lit 1, nat_lit 0), [(nat_lit 0, nat_lit 12, .ofNat (nat_lit 0), .ofNat (nat_lit 0))]), nat_lit 10, .ofNat (nat_lit 0), ((nat_lit 0, nat_lit 0), [])), (nat_lit 11, ((nat_lit 1, nat_lit 0), []), nat_lit 6, .ofNat (nat_lit 0), ((nat_lit 0, nat_lit 0), []))] else []) else bif Nat.beq y (nat_lit 65) then (bif Nat.blt pc (nat_lit 66) then (bif Nat.beq pc (nat_lit 44) then [(nat_lit 11, ((nat_lit 1, nat_lit 0), []), nat_lit 18, .ofNat (nat_lit 0), ((nat_lit 0, nat_lit 0), []))] else []) else (bif Nat.blt pc (nat_lit 95) then (bif Nat.beq pc (nat_lit 66) then [(nat_lit 11, ((nat_lit 1, nat_lit 0), []), nat_lit 11, .ofNat (nat_lit 0), ((nat_lit 0, nat_lit 0), []))] else []) else (bif Nat.beq pc (nat_lit 95) then [(nat_lit 11, ((nat_lit 1, nat_lit 0), []), nat_lit 14, .ofNat (nat_lit 0), ((nat_lit 0, nat_lit 0), []))] else []))) else bif Nat.beq y (nat_lit 136) then (bif Nat.beq pc (nat_lit 8) then [(nat_lit 14, ((nat_lit 1, nat_lit 0), []), nat_lit 3, .ofNat (nat_lit 0), ((nat_lit 0, nat_lit 0), [])), (nat_lit 11, ((nat_lit 1, nat_lit 0), []), nat_lit 17, .ofNat (nat_lit 0), ((nat_lit 0, nat_lit 0), []))] else []) else []
def lw_ik (y pc : Nat) : Nat := bif Nat.beq y (nat_lit 2) then (bif Nat.blt pc (nat_lit 31) then (bif Nat.blt pc (nat_lit 15) then (bif Nat.beq pc (nat_lit 8) then nat_lit 57 else nat_lit 0) else (bif Nat.blt pc (nat_lit 23) then (bif Nat.beq pc (nat_lit 15) then nat_lit 39 else nat_lit 0) else (bif Nat.beq pc (nat_lit 23) then nat_lit 40 else nat_lit 0))) else (bif Nat.blt pc (nat_lit 46) then (bif Nat.blt pc (nat_lit 38) then (bif Nat.beq pc (nat_lit 31) then nat_lit 41 else nat_lit 0) else (bif Nat.beq pc (nat_lit 38) then nat_lit 42 else nat_lit 0)) else (bif Nat.blt pc (nat_lit 54) then (bif Nat.beq pc (nat_lit 46) then nat_lit 43 else nat_lit 0) else (bif Nat.beq pc (nat_lit 54) then nat_lit 44 else nat_lit 0)))) else bif Nat.beq y (nat_lit 1) then (bif Nat.blt pc (nat_lit 42) then (bif Nat.blt pc (nat_lit 16) then (bif Nat.beq pc (nat_lit 5) then nat_lit 46 else nat_lit 0) else (bif Nat.blt pc (nat_lit 31) then (bif Nat.beq pc (nat_lit 16) then nat_lit 47 else nat_lit 0) else (bif Nat.beq pc (nat_lit 31) then nat_lit 48 else nat_lit 0))) else (bif Nat.blt pc (nat_lit 53) then (bif Nat.beq pc (nat_lit 42) then nat_lit 52 else nat_lit 0) else (bif Nat.blt pc (nat_lit 65) then (bif Nat.beq pc (nat_lit 53) then nat_lit 53 else nat_lit 0) else (bif Nat.beq pc (nat_lit 65) then nat_lit 32 else nat_lit 0)))) else bif Nat.beq y (nat_lit 136) then (bif Nat.blt pc (nat_lit 14) then (bif Nat.beq pc (nat_lit 6) then nat_lit 57 else nat_lit 0) else (bif Nat.blt pc (nat_lit 29) then (bif Nat.beq pc (nat_lit 14) then nat_lit 15 else nat_lit 0) else (bif Nat.beq pc (nat_lit 29) then nat_lit 16 else nat_lit 0))) else bif Nat.beq y (nat_lit 135) then (bif Nat.blt pc (nat_lit 13) then (bif Nat.beq pc (nat_lit 6) then nat_lit 12 else nat_lit 0) else (bif Nat.beq pc (nat_lit 13) then nat_lit 13 else nat_lit 0)) else bif Nat.beq y (nat_lit 67) then (bif Nat.blt pc (nat_lit 13) then (bif Nat.beq pc (nat_lit 6) then nat_lit 30 else nat_lit 0) else (bif Nat.beq pc (nat_lit 13) then nat_lit 31 else nat_lit 0)) else bif Nat.beq y (nat_lit 66) then (bif Nat.blt pc (nat_lit 21) then (bif Nat.blt pc (nat_lit 14) then (bif Nat.beq pc (nat_lit 6) then nat_lit 62 else nat_lit 0) else (bif Nat.beq pc (nat_lit 14) then nat_lit 21 else nat_lit 0)) else (bif Nat.blt pc (nat_lit 47) then (bif Nat.beq pc (nat_lit 21) then nat_lit 22 else nat_lit 0) else (bif Nat.beq pc (nat_lit 47) then nat_lit 48 else nat_lit 0))) else bif Nat.beq y (nat_lit 65) then (bif Nat.blt pc (nat_lit 30) then (bif Nat.blt pc (nat_lit 15) then (bif Nat.beq pc (nat_lit 7) then nat_lit 7 else nat_lit 0) else (bif Nat.blt pc (nat_lit 22) then (bif Nat.beq pc (nat_lit 15) then nat_lit 8 else nat_lit 0) else (bif Nat.beq pc (nat_lit 22) then nat_lit 60 else nat_lit 0))) else (bif Nat.blt pc (nat_lit 59) then (bif Nat.blt pc (nat_lit 37) then (bif Nat.beq pc (nat_lit 30) then nat_lit 61 else nat_lit 0) else (bif Nat.beq pc (nat_lit 37) then nat_lit 51 else nat_lit 0)) else (bif Nat.blt pc (nat_lit 85) then (bif Nat.beq pc (nat_lit 59) then nat_lit 49 else nat_lit 0) else (bif Nat.beq pc (nat_lit 85) then nat_lit 50 else nat_lit 0)))) else bif Nat.beq y (nat_lit 64) then (bif Nat.blt pc (nat_lit 14) then (bif Nat.beq pc (nat_lit 6) then nat_lit 4 else nat_lit 0) else (bif Nat.beq pc (nat_lit 14) then nat_lit 5 else nat_lit 0)) else bif Nat.beq y (nat_lit 63) then (bif Nat.beq pc (nat_lit 8) then nat_lit 2 else nat_lit 0) else nat_lit 0
def lw_cp (pc : Nat) : Nat × Nat := bif Nat.blt pc (nat_lit 2) then (bif Nat.blt pc (nat_lit 1) then (bif Nat.beq pc (nat_lit 0) then (nat_lit 5, nat_lit 60) else (nat_lit 0, nat_lit 0)) else (bif Nat.beq pc (nat_lit 1) then (nat_lit 45, nat_lit 600) else (nat_lit 0, nat_lit 0))) else (bif Nat.blt pc (nat_lit 3) then (bif Nat.beq pc (nat_lit 2) then (nat_lit 300, nat_lit 4000) else (nat_lit 0, nat_lit 0)) else (bif Nat.beq pc (nat_lit 3) then (nat_lit 600, nat_lit 215000) else (nat_lit 0, nat_lit 0)))
def lw_hk (pc : Nat) : Nat := bif Nat.blt pc (nat_lit 8) then (bif Nat.beq pc (nat_lit 0) then nat_lit 45 else nat_lit 0) else (bif Nat.beq pc (nat_lit 8) then nat_lit 56 else nat_lit 0)
def lw_HJ : List ab_Hn := [(nat_lit 11, ((nat_lit 0, nat_lit 1), []), nat_lit 0, .ofNat (nat_lit 0), ((nat_lit 0, nat_lit 0), [])), (nat_lit 20, ((nat_lit 0, nat_lit 2), [(nat_lit 0, nat_lit 1, .ofNat (nat_lit 0), .ofNat (nat_lit 0))]), nat_lit 0, .ofNat (nat_lit 0), ((nat_lit 0, nat_lit 0), [])), (nat_lit 20, ((nat_lit 0, nat_lit 2), [(nat_lit 0, nat_lit 1, .ofNat (nat_lit 0), .ofNat (nat_lit 0))]), nat_lit 0, .ofNat (nat_lit 1), ((nat_lit 0, nat_lit 0), [])), (nat_lit 20, ((nat_lit 0, nat_lit 2), [(nat_lit 0, nat_lit 1, .ofNat (nat_lit 0), .ofNat (nat_lit 0))]), nat_lit 0, .ofNat (nat_lit 2), ((nat_lit 0, nat_lit 0), [])), (nat_lit 11, ((nat_lit 0, nat_lit 2), []), nat_lit 38, .ofNat (nat_lit 0), ((nat_lit 0, nat_lit 0), []))]
def lw_TJ : ab_S := (nat_lit 18, [.inr (.inr (nat_lit 2)), .inr (.inl (nat_lit 1)), .inr (.inl (nat_lit 11)), .inl (nat_lit 0, .ofNat (nat_lit 0), .ofNat (nat_lit 0))], [], ([(.ofNat (nat_lit 0), .ofNat (nat_lit 8000000))], [], [nat_lit 0, nat_lit 1, nat_lit 3, nat_lit 4, nat_lit 5, nat_lit 38, nat_lit 37, nat_lit 39, nat_lit 32], [(nat_lit 0, (nat_lit 0, nat_lit 0, .ofNat (nat_lit 0), .ofNat (nat_lit 0)), .inr (.inl (nat_lit 3))), (nat_lit 0, (nat_lit 0, nat_lit 1, .ofNat (nat_lit 0), .ofNat (nat_lit 0)), .inr (.inl (nat_lit 5))), (nat_lit 2, (nat_lit 0, nat_lit 2, .ofNat (nat_lit 0), .ofNat (nat_lit 0)), .inr (.inl (nat_lit 3))), (nat_lit 2, (nat_lit 0, nat_lit 0, .ofNat (nat_lit 0), .ofNat (nat_lit 0)), .inr (.inl (nat_lit 7))), (nat_lit 2, (nat_lit 0, nat_lit 1, .ofNat (nat_lit 0), .ofNat (nat_lit 0)), .inr (.inl (nat_lit 9))), (nat_lit 5, (nat_lit 0, nat_lit 0, .ofNat (nat_lit 0), .ofNat (nat_lit 0)), .inr (.inl (nat_lit 13))), (nat_lit 5, (nat_lit 0, nat_lit 1, .ofNat (nat_lit 0), .ofNat (nat_lit 0)), .inr (.inl (nat_lit 15))), (nat_lit 6, (nat_lit 6, nat_lit 0, .ofNat (nat_lit 0), .ofNat (nat_lit 0)), .inl (nat_lit 0, .ofNat (nat_lit 0), .ofNat (nat_lit 0))), (nat_lit 7, (nat_lit 1, nat_lit 0, .ofNat (nat_lit 0), .ofNat (nat_lit 0)), .inl (nat_lit 0, .ofNat (nat_lit 0), .ofNat (nat_lit 0))), (nat_lit 7, (nat_lit 1, nat_lit 0, .ofNat (nat_lit 0), .ofNat (nat_lit 1)), .inl (nat_lit 0, .ofNat (nat_lit 0), .ofNat (nat_lit 0))), (nat_lit 7, (nat_lit 1, nat_lit 0, .ofNat (nat_lit 0), .ofNat (nat_lit 2)), .inl (nat_lit 0, .ofNat (nat_lit 0), .ofNat (nat_lit 0))), (nat_lit 0, (nat_lit 0, nat_lit 5, .ofNat (nat_lit 0), .ofNat (nat_lit 0)), .inr (.inl (nat_lit 17))), (nat_lit 8, (nat_lit 1, nat_lit 0, .ofNat (nat_lit 0), .ofNat (nat_lit 0)), .inr (.inl (nat_lit 0))), (nat_lit 8, (nat_lit 1, nat_lit 0, .ofNat (nat_lit 0), .ofNat (nat_lit 1)), .inr (.inl (nat_lit 0))), (nat_lit 8, (nat_lit 1, nat_lit 0, .ofNat (nat_lit 0), .ofNat (nat_lit 2)), .inr (.inl (nat_lit 0))), (nat_lit 1, (nat_lit 0, nat_lit 1, .ofNat (nat_lit 0), .ofNat (nat_lit 0)), .inl (nat_lit 0, .ofNat (nat_lit 0), .ofNat (nat_lit 0))), (nat_lit 6, (nat_lit 1, nat_lit 0, .ofNat (nat_lit 0), .ofNat (nat_lit 8)), .inl (nat_lit 0, .ofNat (nat_lit 0), .ofNat (nat_lit 0)))], []), nat_lit 172, nat_lit 206560)
def lw_mp : Nat := nat_lit 633825300261688653338028015615
def lw_pub (i κ : Nat) (S : ab_S) : ab_S := (S.1, S.2.1, S.2.2.1, (S.2.2.2.1.1, S.2.2.2.1.2.1, ab_lset S.2.2.2.1.2.2.1 i κ, S.2.2.2.1.2.2.2.1, S.2.2.2.1.2.2.2.2.filter (fun d => !Nat.beq d.1 i)), S.2.2.2.2)
def lw_j37 (i : Nat) (S : ab_S) : Bool := (match ee_nth S.2.2.2.1.2.2.1 i with
  | some κf => Nat.beq κf (nat_lit 57)
  | none => false) && (ab_unq (nat_lit 57) i S.2.2.2.1.2.2.1 (nat_lit 0) && S.2.2.2.1.2.2.2.1.any (fun g => decide (g = (i, (nat_lit 8, nat_lit 0, 0, 0), .inl (nat_lit 0, 0, 0)))))
def lw_j29 (i : Nat) (S : ab_S) : Bool := (match ee_nth S.2.2.2.1.2.2.1 i with
  | some κf => Nat.beq κf (nat_lit 53)
  | none => false) && ((ab_unq (nat_lit 53) i S.2.2.2.1.2.2.1 (nat_lit 0) && ab_pty S.2.2.2.1 i (nat_lit 53) (nat_lit 29)) && (ab_cls (nat_lit 29)).all (fun cc => ab_pv S.2.2.2.1 i cc))
def lw_f1 (S : ab_S) : Bool := (match S.2.2.1 with
  | [] => true
  | _ => false) && ((lw_j37 (nat_lit 165) S && lw_j29 (nat_lit 160) (lw_pub (nat_lit 165) (nat_lit 37) S)) && (ab_hps ab_cls lw_mp (nat_lit 0) lw_HJ [lw_pub (nat_lit 160) (nat_lit 29) (lw_pub (nat_lit 165) (nat_lit 37) S)]).all (fun S3 => ab_ler (nat_lit 1) (nat_lit 0) S3 lw_TJ))
section LJ
variable {p : Program} {l : Launch} {e : Env} {R : Room} {s : State} {m : MethodId} {args : Array Value} {below : List Frame} {meth : Method} {c : Code} {Q : State → Prop} {D : va_G} {dA : Nat → ClassId} {xa : List Nat} {xt : ee_X} {B : Nat}
theorem lw_j37_snd {ks : List Nat} {ws : va_W} {rv : List Int} {sv : List (Nat × Nat)} {S : ab_S} {i : Nat} (hG : ab_G ab_cls dA xa ks ws rv sv S.2.2.2.1) (h : lw_j37 i S = true) : ∃ q : Nat × Nat, ks[q.1]? = some 57 ∧ ab_G ab_cls dA xa (ks.set q.1 37) ws rv sv (lw_pub i 37 S).2.2.2.1 := by
  unfold lw_j37 at h
  rw [Bool.and_eq_true, Bool.and_eq_true] at h
  obtain ⟨h1, h2, h3⟩ := h
  split at h1
  · rename_i κf hκ
    have e1 : κf = 57 := Nat.eq_of_beq_eq_true h1
    subst e1
    rw [ee_nth_eq] at hκ
    obtain ⟨q, N, f, y1, y2, y3, y4, y5, y6, -⟩ := ab_int_cell hG hκ ab_ka57 rfl
    obtain ⟨g, hg1, hg2⟩ := List.any_eq_true.mp h3
    have eg := of_decide_eq_true hg2
    subst eg
    obtain ⟨qa, ea, ia, va, f1, f2, f3, f4, f5⟩ := hG.2.2.2.1 _ hg1
    have f1' : sv[i]? = some qa := f1
    rw [y1] at f1'
    cases f1'
    rw [y3] at f2
    cases f2
    have f3' : ab_ev rv (0, 0, 0) = some ia := f3
    rw [ab_ev0 rfl] at f3'
    have eia : (0 : Int) = ia := Option.some.inj f3'
    subst eia
    obtain ⟨⟨cA, n9, f9, h8, h7⟩, -⟩ := ab_rd_q2 (t := 5) f4
    cases h8
    have h7' : N = 7900 ∧ ab_gd (fun j => f (1580 * (0 : Int).toNat + j)) := h7
    obtain ⟨e9, h6⟩ := h7'
    subst e9
    have hgn : ab_gd f := ab_gd_blk (f := fun j => f (1580 * (0 : Int).toNat + j)) (fun j hj => by
      show f j = f (1580 * 0 + j)
      rw [show 1580 * 0 + j = j by omega]) h6
    have hcell : ab_cell dA (ks.set q.1 37) (ws.map (·.1)) 37 (.inl (dA 0, 7900, .inl f)) := by
      refine ⟨fun ci ts h9 => (by rw [ab_ko37] at h9; cases h9), fun t9 lo9 hi9 h9 => ?_, fun h9 => absurd h9 (by decide), fun _ => ⟨_, 7900, f, rfl, hgn.2.2⟩⟩
      rw [ab_ka37] at h9
      cases h9
      refine Or.inl ⟨Or.inl rfl, 7900, f, rfl, by decide, by decide, fun j hj => ?_⟩
      by_cases hi5 : j < 1580
      · exact ab_tv_i (hgn.1 j hi5)
      · have e9 : ab_ke 37 j = .inl (-2147483648, 2147483647) := by
          show ab_all j = _
          unfold ab_all
          rw [ee_cf (by
            cases hz : Nat.blt j (nat_lit 1580) with
            | false => rfl
            | true =>
              have h8 : j < 1580 := Nat.le_of_ble_eq_true hz
              exact absurd h8 hi5)]
        rw [e9]
        exact ⟨f j, rfl, (ab_i32 _).1, (ab_i32 _).2⟩
    refine ⟨q, y2, ?_⟩
    show ab_G ab_cls dA xa (ks.set q.1 37) ws rv sv (S.2.2.2.1.1, S.2.2.2.1.2.1, ab_lset S.2.2.2.1.2.2.1 i 37, S.2.2.2.1.2.2.2.1, S.2.2.2.1.2.2.2.2.filter (fun d => !Nat.beq d.1 i))
    rw [ab_lset_eq]
    exact ab_G_pub (κ := 37) hG hκ (by decide) (fun j hj => by
      have h9 : 0 + j = i := ab_unq_in h2 j hj
      omega) y1 y2 y3 hcell (fun cc hc => ab_hd_blk (ws := []) (f := f) (fun _ _ => rfl) (by rw [← ab_cls37]; exact hc) (hgn.2.1 _ cc (by rw [← ab_cls37]; exact hc)))
  · cases h1
theorem lw_j29_snd {A : Nat → Prop} {ks : List Nat} {ws : va_W} {rv : List Int} {sv : List (Nat × Nat)} {S : ab_S} {i : Nat} (hG : ab_G ab_cls dA xa ks ws rv sv S.2.2.2.1) (hD : va_D A ws) (h : lw_j29 i S = true) : ∃ q : Nat × Nat, ks[q.1]? = some 53 ∧ ab_G ab_cls dA xa (ks.set q.1 29) ws rv sv (lw_pub i 29 S).2.2.2.1 := by
  unfold lw_j29 at h
  rw [Bool.and_eq_true, Bool.and_eq_true, Bool.and_eq_true] at h
  obtain ⟨h1, ⟨h2, h3⟩, h4⟩ := h
  split at h1
  · rename_i κf hκ
    have e1 : κf = 53 := Nat.eq_of_beq_eq_true h1
    subst e1
    rw [ee_nth_eq] at hκ
    obtain ⟨q, ee, w1, w2, w3⟩ := hG.2.2.1.2 _ _ hκ
    have hcell := ab_pty_snd hG (by decide) w1 w2 w3 (by decide) (by decide) h3
    refine ⟨q, w2, ?_⟩
    show ab_G ab_cls dA xa (ks.set q.1 29) ws rv sv (S.2.2.2.1.1, S.2.2.2.1.2.1, ab_lset S.2.2.2.1.2.2.1 i 29, S.2.2.2.1.2.2.2.1, S.2.2.2.1.2.2.2.2.filter (fun d => !Nat.beq d.1 i))
    rw [ab_lset_eq]
    exact ab_G_pub (κ := 29) hG hκ (by decide) (fun j hj => by
      have h9 : 0 + j = i := ab_unq_in h2 j hj
      omega) w1 w2 w3 hcell (fun cc hc => ab_pv_snd hG hD (List.all_eq_true.mp h4 cc hc) w1 w3)
  · cases h1
theorem lw_phase1 (hrun : ab_rnI0 ab_cls lw_mp (nat_lit 0) (ab_oI ab_cls ab_mcI lw_mp (nat_lit 0) lw_Kp lw_iy lw_ih lw_ik lw_cp (nat_lit 2710) (nat_lit 7) (nat_lit 4) (nat_lit 1000) (nat_lit 240000) lw_hk (nat_lit 0)) (fun _ => []) (fun pc => Nat.beq pc (nat_lit 18)) lw_f1 (nat_lit 200) lw_S0 = true) (hKp : ∀ K ∈ lw_Kp, ab_CT ab_cls l D dA xa xt B K) (hxt : xt[1]? = some (some ab_rnd)) (hC : ee_C p s m args meth c D dA xa xt B 0) (hR : 11 ≤ R.frames ∧ 40 * 11 ≤ R.locals) (hcap : 1000 + 6144 ≤ R.cells ∧ 240000 + 6291456 ≤ R.slots) {b : Nat} {ls : Array Slot} (hl : lv_has ls 4 [(0, .ref b)]) (hb : xa[0]? = some b)
    (goal : ∀ (ke : Option Nat) (ph0 : Nat) (ks : List Nat) (ws : va_W) (sv : List (Nat × Nat)) (H : Heap) (locs : List Loc) (ls : Array Slot), (∀ k, ks[k]? = some 29 → ke = some k) → ph0 ≤ ab_ph ke ks ws → ab_G ab_cls dA xa ks ws [0] sv lw_TJ.2.2.2.1 → va_P D ee_cl ws H → va_D (fun q => B ≤ q) ws → va_S (fun q => B ≤ q) s.heap H locs → ab_lo [0] sv xa ls 4 lw_TJ.2.1 → W p l e R s m args below meth c H locs (172 + (ab_ph ke ks ws / 1024 - ph0 / 1024)) (206560 + (ab_ph ke ks ws - ph0)) Q (F0 m 18 ls [])) :
    W p l e R s m args below meth c s.heap [] 0 0 Q (F0 m 0 ls []) := by
  have h04 : ee_ml 0 = 4 := by decide +kernel
  have hfinal : ∀ S, lw_f1 S = true → ab_WS ab_cls p l e R s m args below meth c Q D dA xa B [0] (([] : List (Nat × Nat)), (([] : List Nat), ([] : va_W)), ab_wm lw_mp, none, 0, 0) 0 S := by
    intro S hfin
    intro ks ws rv sv H locs ls vs hr0 hs0 hG hP hD hS hl hv
    unfold lw_f1 at hfin
    rw [Bool.and_eq_true, Bool.and_eq_true, Bool.and_eq_true] at hfin
    obtain ⟨c1, ⟨c2, c3⟩, c4⟩ := hfin
    obtain ⟨q1, w1, hG1⟩ := lw_j37_snd hG c2
    obtain ⟨q2, w2, hG2⟩ := lw_j29_snd hG1 hD c3
    have h29 : ∀ k, ((ks.set q1.1 37).set q2.1 29)[k]? = some 29 → some q2.1 = some k := fun k hk => by
      by_cases hk2 : q2.1 = k
      · rw [hk2]
      · rw [List.getElem?_set_ne hk2] at hk
        by_cases hk1 : q1.1 = k
        · subst hk1
          rw [List.getElem?_set_self (List.getElem?_eq_some_iff.mp w1).1] at hk
          exact absurd (Option.some.inj hk) (by decide)
        · rw [List.getElem?_set_ne hk1] at hk
          have h9 : (none : Option Nat) = some k := hs0.2.1.2.2 k hk
          cases h9
    have hst : S.2.2.1 = [] := by
      revert c1
      cases S.2.2.1 with
      | nil => exact fun _ => rfl
      | cons a l9 => exact fun h9 => by cases h9
    have e18 : S.1 = 18 ∨ True := Or.inr trivial
    have hWS := ab_hps_snd (hs := lw_HJ) (L := [lw_pub 160 29 (lw_pub 165 37 S)]) (cls := ab_cls) (p := p) (l := l) (e := e) (R := R) (s := s) (m := m) (args := args) (below := below) (meth := meth) (c := c) (Q := Q) (D := D) (dA := dA) (xa := xa) (B := B) (mask := lw_mp) (X := 0) (y := 0) (rv0 := rv) (sv0 := (([] : List (Nat × Nat)), ((ks.set q1.1 37).set q2.1 29, ws), ab_wm lw_mp, some q2.1, 0, ab_ph (some q2.1) ((ks.set q1.1 37).set q2.1 29) ws)) rfl rfl (fun S' h' => by
      have hle := List.all_eq_true.mp c4 S' h'
      have hle' : ab_le 1 0 _ _ S' lw_TJ = true := hle
      intro ks3 ws3 rv3 sv3 H3 locs3 ls3 vs3 hr3 hs3 hG3 hP3 hD3 hS3 hl3 hv3
      obtain ⟨rv', sv', hSG, g1, g2, g3, g4, g5, g6, g7, g8⟩ := ab_le_fit hle' hG3 hl3 hv3
      have g4' := g4 [0] rfl (hr0.trans hr3)
      have g9 : rv'.length = 1 := g1.1.1
      have erv : rv' = [0] := by
        obtain ⟨t9, rfl⟩ := g4'
        match t9, g9 with
        | [], _ => rfl
        | _ :: _, g9 => simp at g9
      subst erv
      have g2 : ab_lo [0] sv' xa ls3 4 lw_TJ.2.1 := by rw [← h04]; exact g2
      have g3 : ab_a2 (ab_ok [0] sv' xa) vs3 [] := g3
      have g6 : S'.1 = 18 := g6
      match vs3, g3 with
      | [], _ =>
        rw [g6]
        exact W.widen (Nat.add_le_add_right g7 _) (Nat.add_le_add_right g8 _) (goal (some q2.1) _ ks3 ws3 sv' H3 locs3 ls3 hs3.2.1.2.2 hs3.2.2 g1 hP3 hD3 hS3 g2)) (lw_pub 160 29 (lw_pub 165 37 S)) List.mem_cons_self
    have k9 := hWS ((ks.set q1.1 37).set q2.1 29) ws rv sv H locs ls vs (List.prefix_refl _) ⟨List.nil_prefix, ⟨ab_kp_rf, fun k κ q _ h2 => Or.inl h2, h29⟩, Nat.le_refl _⟩ hG2 hP hD hS hl hv
    have z1 : S.2.2.2.2.1 + (ab_ph (some q2.1) ((ks.set q1.1 37).set q2.1 29) ws / 1024 - ab_ph (some q2.1) ((ks.set q1.1 37).set q2.1 29) ws / 1024) = S.2.2.2.2.1 := by omega
    have z2 : S.2.2.2.2.2 + (ab_ph (some q2.1) ((ks.set q1.1 37).set q2.1 29) ws - ab_ph (some q2.1) ((ks.set q1.1 37).set q2.1 29) ws) = S.2.2.2.2.2 := by omega
    have k8 : W p l e R s m args below meth c H locs (S.2.2.2.2.1 + (ab_ph (some q2.1) ((ks.set q1.1 37).set q2.1 29) ws / 1024 - ab_ph (some q2.1) ((ks.set q1.1 37).set q2.1 29) ws / 1024)) (S.2.2.2.2.2 + (ab_ph (some q2.1) ((ks.set q1.1 37).set q2.1 29) ws - ab_ph (some q2.1) ((ks.set q1.1 37).set q2.1 29) ws)) Q (F0 m S.1 ls vs) := k9
    rw [z1, z2] at k8
    refine W.widen ?_ ?_ k8
    · show S.2.2.2.2.1 + ((0 : Nat) / 1024 - 0 / 1024) ≤ S.2.2.2.2.1
      omega
    · show S.2.2.2.2.2 + ((0 : Nat) - 0) ≤ S.2.2.2.2.2
      omega
  have main := ab_rnI0_snd (cls := ab_cls) (p := p) (l := l) (e := e) (R := R) (s := s) (m := m) (args := args) (below := below) (meth := meth) (c := c) (Q := Q) (D := D) (dA := dA) (xa := xa) (B := B) (rv0 := [0]) (sv0 := (([] : List (Nat × Nat)), (([] : List Nat), ([] : va_W)), ab_wm lw_mp, none, 0, 0)) (y := 0) rfl rfl (fun S L hL k => ab_oI_snd (ab_mcI_snd (by decide +kernel)) hxt ab_hnc ab_hcok ab_hcok2 (by decide) (by decide) hKp 4 (by decide) hR hcap rfl rfl hC (by decide +kernel) hL k) hfinal hrun
  have h0 := main [] [] [0] [] s.heap [] ls [] (List.prefix_refl _) ⟨List.prefix_refl _, ⟨ab_kp_rf, fun k κ q h9 _ => (by simp at h9), fun k h9 => (by simp at h9)⟩, Nat.le_refl _⟩
      ⟨⟨rfl, fun i q h9 => (by
        match i, h9 with
        | 0, h9 =>
          cases h9
          exact ⟨0, rfl, by decide, by decide⟩
        | i + 1, h9 => simp [lw_S0] at h9)⟩, fun r h9 => absurd h9 List.not_mem_nil, ⟨rfl, fun i κ h9 => (by
          have h9' : ([] : List Nat)[i]? = some κ := h9
          simp at h9')⟩, fun f h9 => absurd h9 List.not_mem_nil, ⟨rfl, fun k κ h9 => (by simp at h9)⟩, fun k κ a e9 h9 _ cc _ _ => (by simp at h9)⟩
      (fun k q h9 => by simp at h9) ⟨fun i j p q h9 _ _ => (by simp at h9), fun k q h9 => (by simp at h9)⟩ ⟨Nat.le_refl _, fun _ _ _ => rfl, fun l9 h9 => absurd h9 List.not_mem_nil⟩
      ⟨h04.symm, [(0, .ref b)], by rw [h04]; exact hl, fun i a ha => (by
        match i, ha with
        | 0, ha =>
          cases ha
          exact Or.inr ⟨.ref b, List.mem_cons_self, b, hb, rfl⟩
        | 1, ha => cases ha; exact Or.inl rfl
        | 2, ha => cases ha; exact Or.inl rfl
        | 3, ha => cases ha; exact Or.inl rfl
        | i + 4, ha => simp [lw_S0] at ha)⟩ trivial
  exact h0
end LJ
