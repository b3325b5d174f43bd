/-! ===== the law's own steps, with what was used before told apart ===== -/
def lw_sh (o : Nat × Nat) (S : ab_S) : ab_S := (S.1, S.2.1, S.2.2.1, S.2.2.2.1, S.2.2.2.2.1 + o.1, S.2.2.2.2.2 + o.2)
section LC
variable {cls : Nat → List ab_Cl} {p : Program} {l : Launch} {e : Env} {R : Room} {s : State} {m : MethodId} {args : Array Value} {below : List Frame} {meth : Method} {c : Code} {Q : State → Prop} {D : va_G} {dA : Nat → ClassId} {xa : List Nat} {xt : ee_X} {B : Nat} {rv0 : List Int} {sv0 : ab_B} {y : Nat}
variable {pc a b n cC cS d mask X : Nat} {r : List ab_A × List ab_A × ab_H × Nat × Nat} {L : List ab_S}
theorem as_callS {o : Nat × Nat} {op : Nat} {K : ab_K} (hop : op = 39 ∨ op = 40 ∨ op = 41 ∨ op = 42) (hR : d ≤ R.frames ∧ 40 * d ≤ R.locals) (hd0 : 0 < d) (hcap : cC + o.1 + (6144 - sv0.2.2.2.2.2 / 1024) ≤ R.cells ∧ cS + o.2 + (6291456 - sv0.2.2.2.2.2) ≤ R.slots) (hmask : sv0.2.2.1 = ab_wm mask) (hXX : sv0.2.2.2.2.1 = X) (hC : ee_C p s m args meth c D dA xa xt B y) (hs : ee_sc y pc (op, a, b, n) = true) (y1 : 1 ≤ b) (hK : ab_CT cls l D dA xa xt B K) (hdp : K.1.2 < d)
    (h : ab_cal cC cS mask X op b K (pc, r) = some L) (k : ∀ S ∈ L, ab_WS cls p l e R s m args below meth c Q D dA xa B rv0 sv0 y (lw_sh o S)) : ab_WS cls p l e R s m args below meth c Q D dA xa B rv0 sv0 y (lw_sh o (pc, r)) := by
  obtain ⟨lo, st, hh, ce, sl⟩ := r
  unfold ab_cal at h
  dsimp only at h
  split at h
  · rename_i as rest hspl
    generalize hmt : ab_mt (nat_lit 0) (nat_lit 0) [] as hh [] K.2.2.1.1 K.2.2.1.2 = q at h
    obtain ⟨σ, ρ⟩ := q
    dsimp only at h
    cases hc : ab_cck cC cS mask X op b as rest hh ce sl K σ ρ with
    | false => rw [ee_cf hc] at h; cases h
    | true =>
      rw [ee_ct hc] at h
      simp only [ee_f_eq, ee_len_eq] at h
      unfold ab_cck at hc
      simp only [Bool.and_eq_true] at hc
      obtain ⟨⟨⟨c1, c2⟩, c3, c4⟩, ⟨⟨c5, c6⟩, c7, c8, c8x⟩, c9, c10⟩ := hc
      have e1 : K.1.1 = b := Nat.eq_of_beq_eq_true c1
      have c5' : ce + K.2.1.1 ≤ cC := Nat.le_of_ble_eq_true c5
      have c6' : sl + K.2.1.2 ≤ cS := Nat.le_of_ble_eq_true c6
      have c4' : ab_cat rest ≤ 8 := Nat.le_of_ble_eq_true c4
      have c8' : ∀ b9, X.testBit b9 = true → K.2.2.2.2.2.testBit b9 = true := fun b9 h9 => by
        rw [← ab_wm_bit] at h9 ⊢
        exact ab_wm_sub c8 h9
      have c8k : ∀ κ, κ ∈ hh.2.2.1 → 45 ≤ κ → K.2.2.2.2.2.testBit κ = true := fun κ hm h45 => by
        have h9 := List.all_eq_true.mp c8x κ hm
        rw [Bool.or_eq_true] at h9
        rcases h9 with h9 | h9
        · have : κ < 45 := Nat.le_of_ble_eq_true h9
          omega
        · rw [← ab_wm_bit]
          exact h9
      intro ks ws rv sv H locs ls vs hr0 hs0 hG hP hD hS hl hv
      dsimp only [lw_sh] at hG hl hv ⊢
      obtain ⟨vA, vr, ev, hA, hvr, hnA⟩ := ab_spl_snd (va := []) hspl hv trivial
      have ev' : vs = vA.reverse ++ vr := ev
      have c10' := c10
      unfold ab_leh at c10'
      rw [Bool.and_eq_true, Bool.and_eq_true, Bool.and_eq_true] at c10'
      obtain ⟨d1, -, d3, -⟩ := c10'
      obtain ⟨rve, sve, hSG⟩ := ab_SG_mk (σ := σ) (ρ := ρ) hG.1 hG.2.2.1 (fun i f hf => by
        obtain ⟨b9, -, b2⟩ := (ab_z2_get d1).2 i f hf
        split at b2
        · rename_i p9 hp9
          exact ⟨p9, hp9⟩
        · cases b2) (fun i r hr => by
        obtain ⟨b9, -, b2⟩ := (ab_z2_get d3).2 i r hr
        split at b2
        · rename_i κ' hκ'
          rw [ee_nth_eq] at hκ'
          exact ⟨κ', hκ'⟩
        · cases b2)
      have hGe := ab_leh_G hG hSG c10
      have hAe := ab_z2_a2 (P := ab_ok rve sve xa) (P' := ab_ok rv sv xa) (fun v a b hab hb => ab_en1_ok hSG hab hb) c9 hA
      have hct := hK (d - 1) (by omega) sv0.2.2.2.1 ks ws rve sve vA hGe hAe hs0.2.1.2.2
      rw [e1] at hct
      have hsz : ls.size = ee_ml y := by
        obtain ⟨-, lv, hlv, -⟩ := hl
        exact hlv.1
      have hph := ab_ph_le (ke := sv0.2.2.2.1) hG.2.2.2.2.1 hD
      have hb0 := hs0.2.2
      have hcat : (vr.map fun v => v.category).sum ≤ 8 := Nat.le_trans (ab_cat_le hvr) c4'
      have hcp : ce + o.1 + (ab_ph sv0.2.2.2.1 ks ws / 1024 - sv0.2.2.2.2.2 / 1024) + (K.2.1.1 + (6144 - ab_ph sv0.2.2.2.1 ks ws / 1024)) ≤ R.cells ∧ sl + o.2 + (ab_ph sv0.2.2.2.1 ks ws - sv0.2.2.2.2.2) + (K.2.1.2 + (6291456 - ab_ph sv0.2.2.2.1 ks ws)) ≤ R.slots := ⟨by have := hcap.1; omega, by have := hcap.2; omega⟩
      have l1 : rve.length = K.2.2.1.2.1.length := hGe.1.1
      have l2 : sve.length = K.2.2.1.2.2.2.1.length := hGe.2.2.1.1
      have onward : ∀ (v : Option Value) (ws1 : va_W) (H1 : Heap) (locs1 : List Loc) (k9 n9 : Nat), (∃ (x : ab_X) (ks1 : List Nat) (rv1 : List Int) (sv1 : List (Nat × Nat)), x ∈ K.2.2.2.1 ∧ rve <+: rv1 ∧ ab_px (sve, (ks, ws), ab_wm K.2.2.2.2.1, sv0.2.2.2.1, K.2.2.2.2.2, ab_ph sv0.2.2.2.1 ks ws) ks1 ws1 sv1 ∧ ab_G cls dA xa ks1 ws1 rv1 sv1 x.2.1 ∧ ab_an rv1 sv1 xa v x.1 ∧ k9 = x.2.2.1 + (ab_ph sv0.2.2.2.1 ks1 ws1 / 1024 - ab_ph sv0.2.2.2.1 ks ws / 1024) ∧ n9 = x.2.2.2 + (ab_ph sv0.2.2.2.1 ks1 ws1 - ab_ph sv0.2.2.2.1 ks ws)) → va_P D ee_cl ws1 H1 → va_D (fun q => B ≤ q) ws1 → va_S (fun q => B ≤ q) s.heap H1 locs1 → W p l e R s m args below meth c H1 locs1 (ce + o.1 + (ab_ph sv0.2.2.2.1 ks ws / 1024 - sv0.2.2.2.2.2 / 1024) + k9) (sl + o.2 + (ab_ph sv0.2.2.2.1 ks ws - sv0.2.2.2.2.2) + n9) Q (F0 m (pc + 3) ls (v.toList ++ vr)) := by
        intro v ws1 H1 locs1 k9 n9 hq hP1 hD1 hS1
        obtain ⟨x, ks1, rv1, sv1, hx, hr1, hpx, hG1, han, rfl, rfl⟩ := hq
        obtain ⟨dt, av, hdt, hav, hin⟩ := ab_cxs_in h x hx
        rw [← l1, ← l2] at hdt hav hin
        have hS' := ab_call_SG hG.1 hG.2.2.1.1 hSG hr1 hpx.1 hG1.1 hG1.2.2.1.1
        have hG' : ab_G cls dA xa ks1 ws1 (rv ++ rv1.drop rve.length) (sv ++ sv1.drop sve.length) (ab_nh K.2.2.2.2 rve.length sve.length (ab_sg hh.1.length rve.length σ x.2.1) (ab_rg hh.2.2.1.length sve.length ρ x.2.1) hh x.2.1 dt) := ab_call_G hG hSG hr1 hpx hG1 c8k hdt
        have hpx' := ab_px_call (sv' := sv ++ sv1.drop sve.length) hs0 hpx rfl (fun κ hκ => by rw [hmask]; exact ab_wm_sub c7 hκ) (by rw [hXX]; exact c8') (List.prefix_append sv _)
        have hb1 : ab_ph sv0.2.2.2.1 ks ws ≤ ab_ph sv0.2.2.2.1 ks1 ws1 := hpx.2.2
        have es : sl + o.2 + (ab_ph sv0.2.2.2.1 ks ws - sv0.2.2.2.2.2) + (x.2.2.2 + (ab_ph sv0.2.2.2.1 ks1 ws1 - ab_ph sv0.2.2.2.1 ks ws)) = sl + x.2.2.2 + o.2 + (ab_ph sv0.2.2.2.1 ks1 ws1 - sv0.2.2.2.2.2) := by omega
        have ec : ce + o.1 + (ab_ph sv0.2.2.2.1 ks ws / 1024 - sv0.2.2.2.2.2 / 1024) + (x.2.2.1 + (ab_ph sv0.2.2.2.1 ks1 ws1 / 1024 - ab_ph sv0.2.2.2.1 ks ws / 1024)) = ce + x.2.2.1 + o.1 + (ab_ph sv0.2.2.2.1 ks1 ws1 / 1024 - sv0.2.2.2.2.2 / 1024) := by omega
        rw [es, ec]
        have p1 : rv <+: rv ++ rv1.drop rve.length := List.prefix_append rv _
        have p2 : sv <+: sv ++ sv1.drop sve.length := List.prefix_append sv _
        obtain ⟨ha, g1, e1⟩ := ab_asi_snd (σ := σ) (iv := x.2.1.1) (k := fun h1 => ab_asl (ab_sg hh.1.length rve.length σ x.2.1) x.2.1.2.1 h1 (fun h2 => [((Nat.add pc (nat_lit 3), lo, ab_app av rest, h2, Nat.add ce x.2.2.1, Nat.add sl x.2.2.2) : ab_S)]) []) (imp := []) hG' (fun i f q hf hq => by
          obtain ⟨z, z1, z2⟩ := hSG.1.2 i f hf
          obtain ⟨z', z3, z4, z5⟩ := hG1.1.2 i q hq
          rw [ab_pre hr1 z2] at z3
          cases z3
          exact ⟨z, ab_ev_mono p1 z1, z4, z5⟩)
        obtain ⟨hb, g2, e2⟩ := ab_asl_snd hS' (rl := x.2.1.2.1) (k := fun h2 => [((Nat.add pc (nat_lit 3), lo, ab_app av rest, h2, Nat.add ce x.2.2.1, Nat.add sl x.2.2.2) : ab_S)]) (imp := []) g1 hG1.2.1
        rw [e1] at hin
        have hm := hin (Nat.add pc (nat_lit 3), lo, ab_app av rest, hb, Nat.add ce x.2.2.1, Nat.add sl x.2.2.2) (by rw [e2]; exact List.mem_cons_self)
        rw [ab_app_eq] at hm
        cases hx0 : x.1 with
        | none =>
          rw [hx0] at han hav
          have hv0 : v = none := by
            cases v with
            | none => rfl
            | some v => cases han
          subst hv0
          cases hav
          exact k _ hm ks1 ws1 _ _ H1 locs1 ls vr (hr0.trans p1) hpx' g2 hP1 hD1 hS1 (ab_lo_mono p1 p2 hl) (ab_a2_mono (fun _ _ => ab_ok_mono p1 p2) hvr)
        | some a9 =>
          rw [hx0] at han hav
          cases v with
          | none => cases han
          | some v =>
            have hav' : (match ab_ta (ab_sg hh.1.length rve.length σ x.2.1) (ab_rg hh.2.2.1.length sve.length ρ x.2.1) a9 with
              | some b => some [b]
              | none => none) = some av := hav
            split at hav'
            · rename_i b9 ha9
              cases hav'
              exact k _ hm ks1 ws1 _ _ H1 locs1 ls (v :: vr) (hr0.trans p1) hpx' g2 hP1 hD1 hS1 (ab_lo_mono p1 p2 hl) ⟨ab_ta_ok hS' ha9 han, ab_a2_mono (fun _ _ => ab_ok_mono p1 p2) hvr⟩
            · cases hav'
      have e2 : ee_na b = (bif Nat.beq op (nat_lit 39) || Nat.beq op (nat_lit 40) then Nat.succ (ee_np b) else ee_np b) := Nat.eq_of_beq_eq_true c2
      subst ev'
      have recv : (op = 39 ∨ op = 40) → ∃ (ax kk0 : Nat) (fs vB : List Value), vA = .ref ax :: vB ∧ vB.length = ee_np b ∧ ws[kk0]? = some (ax, .inr (ee_yc b, fs)) := by
        intro h9
        have hb9 : (Nat.beq op (nat_lit 39) || Nat.beq op (nat_lit 40)) = true := by
          rcases h9 with rfl | rfl <;> rfl
        rw [hb9] at e2
        unfold ab_rcv at c3
        rw [hb9] at c3
        obtain ⟨ax, kk0, fs, vB, e5, e6⟩ := ab_rcv1_snd hG (show ab_rcv1 b hh as = true from c3) hA
        refine ⟨ax, kk0, fs, vB, e5, ?_, e6⟩
        rw [e5] at hnA
        have hnA' : vB.length + 1 = 0 + ee_na b := hnA
        have e2' : ee_na b = ee_np b + 1 := e2
        omega
      have stat : (op = 41 ∨ op = 42) → vA.length = ee_np b := by
        intro h9
        have hb9 : (Nat.beq op (nat_lit 39) || Nat.beq op (nat_lit 40)) = false := by
          rcases h9 with rfl | rfl <;> rfl
        rw [hb9] at e2
        have e2' : ee_na b = ee_np b := e2
        rw [hnA, e2']
        exact Nat.zero_add _
      rcases hop with rfl | rfl | rfl | rfl
      · obtain ⟨ax, kk0, fs, vB, rfl, hvB, hws⟩ := recv (Or.inl rfl)
        rw [List.reverse_cons, List.append_assoc]
        exact sm_39 (P := fun vs9 ws9 => vs9 = .ref ax :: vB ∧ ws9 = ws) hR hd0 hC hs y1 hct hP hD hS hsz ⟨rfl, rfl⟩ hvB hcat hcp onward
      · obtain ⟨ax, kk0, fs, vB, rfl, hvB, hws⟩ := recv (Or.inr rfl)
        rw [List.reverse_cons, List.append_assoc]
        exact sm_40 (P := fun vs9 ws9 => vs9 = .ref ax :: vB ∧ ws9 = ws) hR hd0 hC hs y1 hct hP hD hS hsz hws ⟨rfl, rfl⟩ hvB hcat hcp onward
      · exact sm_41 (P := fun vs9 ws9 => vs9 = vA ∧ ws9 = ws) hR hd0 hC hs y1 hct hP hD hS hsz ⟨rfl, rfl⟩ (stat (Or.inl rfl)) hcat hcp onward
      · exact sm_42 (P := fun vs9 ws9 => vs9 = vA ∧ ws9 = ws) hR hd0 hC hs y1 hct hP hD hS hsz ⟨rfl, rfl⟩ (stat (Or.inr rfl)) hcat hcp onward
  · cases h
theorem ab_cls1S {o : Nat × Nat} {op b a n : Nat} (hop : op = 39 ∨ op = 40 ∨ op = 41 ∨ op = 42) (hR : d ≤ R.frames ∧ 40 * d ≤ R.locals) (hd0 : 0 < d) (hcap : cC + o.1 + (6144 - sv0.2.2.2.2.2 / 1024) ≤ R.cells ∧ cS + o.2 + (6291456 - sv0.2.2.2.2.2) ≤ R.slots) (hmask : sv0.2.2.1 = ab_wm mask) (hXX : sv0.2.2.2.2.1 = X) (hC : ee_C p s m args meth c D dA xa xt B y) {S : ab_S} (hs : ee_sc y S.1 (op, a, b, n) = true) (y1 : 1 ≤ b) : ∀ {Ks : List ab_K} {L : List ab_S}, (∀ K ∈ Ks, ab_CT cls l D dA xa xt B K ∧ K.1.2 < d) → ab_cls1 cC cS mask X op b S Ks = some L → (∀ S ∈ L, ab_WS cls p l e R s m args below meth c Q D dA xa B rv0 sv0 y (lw_sh o S)) → ab_WS cls p l e R s m args below meth c Q D dA xa B rv0 sv0 y (lw_sh o S)
  | [], L, _, h, _ => by cases h
  | K :: l9, L, hK, h, k => by
    unfold ab_cls1 at h
    cases hb : Nat.beq K.1.1 b with
    | false =>
      rw [ee_cf hb] at h
      exact ab_cls1S hop hR hd0 hcap hmask hXX hC hs y1 (fun K9 h9 => hK K9 (List.mem_cons_of_mem _ h9)) h k
    | true =>
      rw [ee_ct hb] at h
      split at h
      · rename_i L9 hL9
        cases h
        obtain ⟨pc9, r9⟩ := S
        exact as_callS hop hR hd0 hcap hmask hXX hC hs y1 (hK K List.mem_cons_self).1 (hK K List.mem_cons_self).2 hL9 k
      · exact ab_cls1S hop hR hd0 hcap hmask hXX hC hs y1 (fun K9 h9 => hK K9 (List.mem_cons_of_mem _ h9)) h k
end LC
/-- a place of the script: the law's third local and a small number; what stands there has a name -/
def lw_10 (n : Nat) : ab_S → Option (List ab_S)
  | (pc, lo, .inl g :: .inl f :: st, r) => bif (Nat.beq f.1 (nat_lit 1) && (decide (f.2.1 = 1) && decide (f.2.2 = 0))) && (decide (g.2.1 = 0) && (decide (0 ≤ g.2.2) && decide (g.2.2 ≤ 5))) then some [(Nat.add pc n, lo, .inl (nat_lit 1, 1, g.2.2) :: st, r)] else none
  | _ => none
def lw_28 (n : Nat) : ab_S → Option (List ab_S)
  | (pc, lo, .inl f :: .inr (.inr 2) :: st, r) => bif Nat.beq f.1 (nat_lit 1) && (decide (f.2.1 = 1) && (decide (0 ≤ f.2.2) && decide (f.2.2 ≤ 5))) then some [(Nat.add pc n, lo, .inl (Nat.add (nat_lit 3) f.2.2.toNat, 1, 0) :: st, r)] else none
  | _ => none
def lw_45 (tgt n : Nat) : ab_S → Option (List ab_S)
  | (pc, lo, .inl _ :: st, r) => some [(tgt, lo, st, r), (Nat.add pc n, lo, st, r)]
  | _ => none
def lw_44 (c tgt : Nat) : ab_S → Option (List ab_S)
  | (_, lo, .inl g :: .inl f :: st, r) => bif Nat.beq c (nat_lit 0) && ab_feq g f then some [(tgt, lo, st, r)] else none
  | _ => none
def lw_st (cC cS mask X : Nat) (Ks : List ab_K) (S : ab_S) : Option (List ab_S) := match ee_pg (nat_lit 0) S.1 with
  | some i => bif Nat.blt S.1 (nat_lit 1100) then (bif Nat.beq i.1 (nat_lit 2) then ab_o2 i.2.1 i.2.2.2 S
      else bif Nat.beq i.1 (nat_lit 1) then ab_o1 i.2.1 i.2.2.2 S
      else bif Nat.beq i.1 (nat_lit 5) then ab_push (.inl (nat_lit 0, 0, (i.2.1 : Int) - 2147483648)) i.2.2.2 S
      else bif Nat.beq i.1 (nat_lit 10) then lw_10 i.2.2.2 S
      else bif Nat.beq i.1 (nat_lit 28) then lw_28 i.2.2.2 S
      else bif Nat.beq i.1 (nat_lit 24) then ab_o24 i.2.2.2 S
      else bif Nat.beq i.1 (nat_lit 48) then ab_o48 i.2.2.1 S
      else bif Nat.beq i.1 (nat_lit 45) then lw_45 i.2.2.1 i.2.2.2 S
      else bif Nat.beq i.1 (nat_lit 44) then lw_44 i.2.1 i.2.2.1 S
      else bif Nat.beq i.1 (nat_lit 40) && Nat.ble (nat_lit 1) i.2.2.1 then ab_cls1 cC cS mask X (nat_lit 40) i.2.2.1 S Ks else none) else none
  | none => none
def lw_run (cC cS mask X : Nat) (Ks : List ab_K) (stop : Nat) (fin : ab_S → Bool) : Nat → List ab_S → Bool
  | _, [] => true
  | 0, _ :: _ => false
  | n + 1, S :: w => bif Nat.beq S.1 stop then (bif fin S then lw_run cC cS mask X Ks stop fin n w else false) else match lw_st cC cS mask X Ks S with
    | some L => lw_run cC cS mask X Ks stop fin n (ab_app L w)
    | none => false
section LS
variable {cls : Nat → List ab_Cl} {p : Program} {l : Launch} {e : Env} {R : Room} {s : State} {m : MethodId} {args : Array Value} {below : List Frame} {meth : Method} {c : Code} {Q : State → Prop} {D : va_G} {dA : Nat → ClassId} {xa : List Nat} {xt : ee_X} {B : Nat} {rv0 : List Int} {sv0 : ab_B}
variable {cC cS d mask X : Nat} {Ks : List ab_K} {o : Nat × Nat}
/-- what the law knows of its script: six ints at i, by name -/
def lw_sc (xt : ee_X) (rv0 : List Int) : Prop := ∃ (sc : List (Nat × Nat)) (i : Nat) (x : Nat → Int32), xt[0]? = some (some sc) ∧ sc.length < 2147483648 ∧ i + 6 ≤ sc.length ∧ rv0[1]? = some (i : Int) ∧ ∀ k, k < 6 → sc[i + k]? = some (ee_z (x k), ee_z (x k)) ∧ rv0[3 + k]? = some (x k).toInt
theorem lw_st_snd (hsc : lw_sc xt rv0) (hR : d ≤ R.frames ∧ 40 * d ≤ R.locals) (hd0 : 0 < d) (hcap : cC + o.1 + (6144 - sv0.2.2.2.2.2 / 1024) ≤ R.cells ∧ cS + o.2 + (6291456 - sv0.2.2.2.2.2) ≤ R.slots) (hmask : sv0.2.2.1 = ab_wm mask) (hXX : sv0.2.2.2.2.1 = X) (hC : ee_C p s m args meth c D dA xa xt B 0) (hK : ∀ K ∈ Ks, ab_CT cls l D dA xa xt B K ∧ K.1.2 < d) {S : ab_S} {L : List ab_S} (h : lw_st cC cS mask X Ks S = some L) (k : ∀ S' ∈ L, ab_WS cls p l e R s m args below meth c Q D dA xa B rv0 sv0 0 (lw_sh o S')) : ab_WS cls p l e R s m args below meth c Q D dA xa B rv0 sv0 0 (lw_sh o S) := by
  obtain ⟨pc, lo, st, hh, ce, sl⟩ := S
  unfold lw_st at h
  dsimp only at h
  split at h
  · rename_i i hi
    obtain ⟨op, a, b, n⟩ := i
    dsimp only at h
    cases hlt : Nat.blt pc (nat_lit 1100) with
    | false => rw [ee_cf hlt] at h; cases h
    | true =>
      rw [ee_ct hlt] at h
      have hs : ee_sc 0 pc (op, a, b, n) = true := ee_sc_all (by decide +kernel) (Nat.le_of_ble_eq_true hlt) hi
      cases h2 : Nat.beq op (nat_lit 2) with
      | true =>
        rw [ee_ct h2] at h
        have e2 : op = 2 := Nat.eq_of_beq_eq_true h2
        subst e2
        unfold ab_o2 at h
        dsimp only at h
        split at h
        · rename_i w hw
          cases hr : ab_isr w with
          | false => rw [ee_cf hr] at h; cases h
          | true =>
            rw [ee_ct hr] at h
            cases h
            have k := k _ List.mem_cons_self
            intro ks ws rv sv H locs ls vs hr0 hs0 hG hP hD hS hl hv
            obtain ⟨v, hv1, hok⟩ := ab_lo_get hl hw (by intro z; subst z; cases hr)
            exact sm_2 hC hs (ab_ok_ref hr hok) hv1 (k ks ws rv sv H locs ls (v :: vs) hr0 hs0 hG hP hD hS hl ⟨hok, hv⟩)
        · cases h
      | false =>
      rw [ee_cf h2] at h
      clear h2
      cases h2 : Nat.beq op (nat_lit 1) with
      | true =>
        rw [ee_ct h2] at h
        have e2 : op = 1 := Nat.eq_of_beq_eq_true h2
        subst e2
        unfold ab_o1 at h
        dsimp only at h
        split at h
        · rename_i f hf
          cases h
          have k := k _ List.mem_cons_self
          intro ks ws rv sv H locs ls vs hr0 hs0 hG hP hD hS hl hv
          obtain ⟨v, hv1, x, rfl, hx2⟩ := ab_lo_get hl hf (by intro z; cases z)
          exact sm_1 hC hs hv1 (k ks ws rv sv H locs ls (.int x :: vs) hr0 hs0 hG hP hD hS hl ⟨⟨x, rfl, hx2⟩, hv⟩)
        · cases h
      | false =>
      rw [ee_cf h2] at h
      clear h2
      cases h2 : Nat.beq op (nat_lit 5) with
      | true =>
        rw [ee_ct h2] at h
        have e2 : op = 5 := Nat.eq_of_beq_eq_true h2
        subst e2
        cases h
        have k := k _ List.mem_cons_self
        intro ks ws rv sv H locs ls vs hr0 hs0 hG hP hD hS hl hv
        refine sm_5 hC hs (fun ha => k ks ws rv sv H locs ls (.int (ee_x a) :: vs) hr0 hs0 hG hP hD hS hl ⟨⟨_, rfl, ?_⟩, hv⟩)
        have h1 := ee_zi (ee_x a)
        rw [ee_zx ha] at h1
        show ab_ev rv (0, 0, (a : Int) - 2147483648) = _
        rw [ab_ev0 rfl]
        exact congrArg some (by omega : (a : Int) - 2147483648 = (ee_x a).toInt)
      | false =>
      rw [ee_cf h2] at h
      clear h2
      cases h2 : Nat.beq op (nat_lit 10) with
      | true =>
        rw [ee_ct h2] at h
        have e2 : op = 10 := Nat.eq_of_beq_eq_true h2
        subst e2
        unfold lw_10 at h
        split at h
        · rename_i pc' lo' g f st' r' heq
          cases heq
          obtain ⟨hc, h⟩ := ab_bif h
          cases h
          simp only [Bool.and_eq_true, decide_eq_true_eq] at hc
          obtain ⟨⟨c1, c2, c3⟩, c4, c5, c6⟩ := hc
          have k := k _ List.mem_cons_self
          obtain ⟨sc, i, x, x1, x2, x3, x4, x5⟩ := hsc
          intro ks ws rv sv H locs ls vs hr0 hs0 hG hP hD hS hl hv
          match vs, hv with
          | v1 :: v2 :: vs, ⟨⟨yv, e1, hy1⟩, ⟨xv, e2, hx1⟩, hv2⟩ =>
            subst e1; subst e2
            have hi1 : rv[1]? = some (i : Int) := ab_pre hr0 x4
            obtain ⟨f1, f2, f3⟩ := f
            obtain ⟨g1, g2, g3⟩ := g
            dsimp only at c1 c2 c3 c4 c5 c6
            have c1' : f1 = 1 := Nat.eq_of_beq_eq_true c1
            subst c1'; subst c2; subst c3; subst c4
            have ex : xv.toInt = (i : Int) := by
              rw [ab_evc (Or.inr hi1)] at hx1
              have h9 := Option.some.inj hx1
              omega
            have ey : yv.toInt = g3 := by
              rw [ab_ev0 rfl] at hy1
              exact (Option.some.inj hy1).symm
            have et : (xv + yv).toInt = (i : Int) + g3 := by
              rw [ab_tadd (by omega) (by omega), ex, ey]
            refine sm_10 (by decide) (by decide) hC hs (fun z => absurd z (by decide)) (k ks ws rv sv H locs ls (.int (xv + yv) :: vs) hr0 hs0 hG hP hD hS hl ⟨⟨_, rfl, ?_⟩, hv2⟩)
            show ab_ev rv (1, 1, g3) = _
            rw [ab_evc (Or.inr hi1), et]
            exact congrArg some (by omega)
        · cases h
      | false =>
      rw [ee_cf h2] at h
      clear h2
      cases h2 : Nat.beq op (nat_lit 28) with
      | true =>
        rw [ee_ct h2] at h
        have e2 : op = 28 := Nat.eq_of_beq_eq_true h2
        subst e2
        unfold lw_28 at h
        split at h
        · rename_i pc' lo' f st' r' heq
          cases heq
          obtain ⟨hc, h⟩ := ab_bif h
          cases h
          simp only [Bool.and_eq_true, decide_eq_true_eq] at hc
          obtain ⟨c1, c2, c5, c6⟩ := hc
          have k := k _ List.mem_cons_self
          obtain ⟨sc, i, x, x1, x2, x3, x4, x5⟩ := hsc
          obtain ⟨q, hq, hd, hn, hx, -⟩ := ee_sc_spec hs
          obtain ⟨he, hb, hml, hown, hts, hG, -⟩ := id hC
          cases (show some (Instr.iaload, 1) = some q from hq)
          cases hn
          obtain ⟨ax, cell, g1, g2, g3, g4, g5, g6, g66, g7⟩ := hG.2.2.2.2.2 0 sc x1
          intro ks ws rv sv H locs ls vs hr0 hs0 hG9 hP hD hS hl hv
          match vs, hv with
          | vi :: vr :: vs, ⟨⟨iv, ei, hiv⟩, ⟨a2, ha2, er⟩, hv2⟩ =>
            subst ei; subst er
            have h2 : xa[0]? = some a2 := ha2
            rw [g1] at h2
            cases h2
            have hi1 : rv[1]? = some (i : Int) := ab_pre hr0 x4
            obtain ⟨f1, f2, f3⟩ := f
            dsimp only at c1 c2 c5 c6
            have c1' : f1 = 1 := Nat.eq_of_beq_eq_true c1
            subst c1'; subst c2
            have ei : iv.toInt = (i : Int) + f3 := by
              rw [ab_evc (Or.inr hi1)] at hiv
              have h9 := Option.some.inj hiv
              omega
            obtain ⟨n3, rfl⟩ : ∃ n3 : Nat, f3 = (n3 : Int) := ⟨f3.toNat, by omega⟩
            have hn3 : n3 < 6 := by omega
            obtain ⟨y1, y2⟩ := x5 n3 hn3
            obtain ⟨xx, z1, z2⟩ := g7 _ _ y1
            have ezx : xx = x n3 := by
              refine ee_zinj ?_
              obtain ⟨z3, z4⟩ := z2
              dsimp only at z3 z4
              omega
            subst ezx
            obtain ⟨v1, v2⟩ := ab_vin (x := iv) (nn := sc.length) (by omega) (by omega)
            have ei2 : iv.toInt.toNat = i + n3 := by omega
            have hCB : B ≤ s.heap.size := hC.2.2.2.2.2.2.1
            have hev : ab_ev rv (3 + ((n3 : Nat) : Int).toNat, 1, 0) = some (x n3).toInt := by
              rw [Int.toNat_natCast, ab_evc (Or.inr (ab_pre hr0 y2))]
              exact congrArg some (by omega)
            exact W.iald (v := .int (x n3)) he hb (by rw [hS.2.1 ax (by omega) (by show ¬ B ≤ ax; omega)]; exact g3) g4 g5 (fun z => z.elim (fun z => v1 (Or.inl z)) (fun z => v1 (Or.inr (Nat.le_trans g6 z)))) (by rw [v2, ei2]; exact z1) rfl rfl hd (k ks ws rv sv H locs ls (.int (x n3) :: vs) hr0 hs0 hG9 hP hD hS hl ⟨⟨x n3, rfl, hev⟩, hv2⟩)
        · cases h
      | false =>
      rw [ee_cf h2] at h
      clear h2
      cases h2 : Nat.beq op (nat_lit 24) with
      | true =>
        rw [ee_ct h2] at h
        have e2 : op = 24 := Nat.eq_of_beq_eq_true h2
        subst e2
        unfold ab_o24 at h
        split at h
        · rename_i pc' lo' w st' r' heq
          cases heq
          obtain ⟨hr, h⟩ := ab_bif h
          cases h
          have k := k _ List.mem_cons_self
          intro ks ws rv sv H locs ls vs hr0 hs0 hG hP hD hS hl hv
          match vs, hv with
          | v :: vs, ⟨hok, hv⟩ => exact sm_24 hC hs (ab_ok_cat hr hok) (k ks ws rv sv H locs ls vs hr0 hs0 hG hP hD hS hl hv)
        · cases h
      | false =>
      rw [ee_cf h2] at h
      clear h2
      cases h2 : Nat.beq op (nat_lit 48) with
      | true =>
        rw [ee_ct h2] at h
        have e2 : op = 48 := Nat.eq_of_beq_eq_true h2
        subst e2
        cases h
        have k := k _ List.mem_cons_self
        intro ks ws rv sv H locs ls vs hr0 hs0 hG hP hD hS hl hv
        exact sm_48 hC hs (k ks ws rv sv H locs ls vs hr0 hs0 hG hP hD hS hl hv)
      | false =>
      rw [ee_cf h2] at h
      clear h2
      cases h2 : Nat.beq op (nat_lit 45) with
      | true =>
        rw [ee_ct h2] at h
        have e2 : op = 45 := Nat.eq_of_beq_eq_true h2
        subst e2
        unfold lw_45 at h
        split at h
        · rename_i pc' lo' f st' r' heq
          cases heq
          cases h
          have k1 := k _ List.mem_cons_self
          have k2 := k _ (List.mem_cons_of_mem _ List.mem_cons_self)
          intro ks ws rv sv H locs ls vs hr0 hs0 hG hP hD hS hl hv
          match vs, hv with
          | v2 :: vs, ⟨⟨xv, e2, hx1⟩, hv⟩ =>
            subst e2
            exact sm_45 hC hs (fun _ => k1 ks ws rv sv H locs ls vs hr0 hs0 hG hP hD hS hl hv) (fun _ => k2 ks ws rv sv H locs ls vs hr0 hs0 hG hP hD hS hl hv)
        · cases h
      | false =>
      rw [ee_cf h2] at h
      clear h2
      cases h2 : Nat.beq op (nat_lit 44) with
      | true =>
        rw [ee_ct h2] at h
        have e2 : op = 44 := Nat.eq_of_beq_eq_true h2
        subst e2
        unfold lw_44 at h
        split at h
        · rename_i pc' lo' g f st' r' heq
          cases heq
          obtain ⟨hc, h⟩ := ab_bif h
          cases h
          rw [Bool.and_eq_true] at hc
          obtain ⟨c0, c1⟩ := hc
          have e0 : a = 0 := Nat.eq_of_beq_eq_true c0
          subst e0
          have k := k _ List.mem_cons_self
          intro ks ws rv sv H locs ls vs hr0 hs0 hG hP hD hS hl hv
          match vs, hv with
          | v1 :: v2 :: vs, ⟨⟨yv, e1, hy1⟩, ⟨xv, e2, hx1⟩, hv⟩ =>
            subst e1; subst e2
            have hxy := ab_feq_ev c1 hx1
            rw [hy1] at hxy
            have exy : xv = yv := Int32.toInt_inj.mp (Option.some.inj hxy).symm
            exact sm_44 hC hs (fun _ => k ks ws rv sv H locs ls vs hr0 hs0 hG hP hD hS hl hv) (fun hn => absurd exy hn)
        · cases h
      | false =>
      rw [ee_cf h2] at h
      clear h2
      cases h2 : Nat.beq op (nat_lit 40) && Nat.ble (nat_lit 1) b with
      | true =>
        rw [ee_ct h2] at h
        rw [Bool.and_eq_true] at h2
        have e2 : op = 40 := Nat.eq_of_beq_eq_true h2.1
        subst e2
        exact ab_cls1S (Or.inr (Or.inl rfl)) hR hd0 hcap hmask hXX hC hs (Nat.le_of_ble_eq_true h2.2) hK h k
      | false =>
        rw [ee_cf h2] at h
        cases h
  · cases h
theorem lw_run_snd (hsc : lw_sc xt rv0) (hR : d ≤ R.frames ∧ 40 * d ≤ R.locals) (hd0 : 0 < d) (hcap : cC + o.1 + (6144 - sv0.2.2.2.2.2 / 1024) ≤ R.cells ∧ cS + o.2 + (6291456 - sv0.2.2.2.2.2) ≤ R.slots) (hmask : sv0.2.2.1 = ab_wm mask) (hXX : sv0.2.2.2.2.1 = X) (hC : ee_C p s m args meth c D dA xa xt B 0) (hK : ∀ K ∈ Ks, ab_CT cls l D dA xa xt B K ∧ K.1.2 < d) {stop : Nat} {fin : ab_S → Bool}
    (k : ∀ S, S.1 = stop → fin S = true → ab_WS cls p l e R s m args below meth c Q D dA xa B rv0 sv0 0 (lw_sh o S)) : ∀ {n : Nat} {w : List ab_S}, lw_run cC cS mask X Ks stop fin n w = true → ∀ S ∈ w, ab_WS cls p l e R s m args below meth c Q D dA xa B rv0 sv0 0 (lw_sh o S)
  | n, [], _, S, hS => by cases hS
  | 0, _ :: _, h, _, _ => by cases h
  | n + 1, S0 :: w, h, S, hS => by
    unfold lw_run at h
    cases hst : Nat.beq S0.1 stop with
    | true =>
      rw [ee_ct hst] at h
      cases hf : fin S0 with
      | false => rw [ee_cf hf] at h; cases h
      | true =>
        rw [ee_ct hf] at h
        rcases List.mem_cons.mp hS with rfl | hS
        · exact k _ (Nat.eq_of_beq_eq_true hst) hf
        · exact lw_run_snd hsc hR hd0 hcap hmask hXX hC hK k h S hS
    | false =>
      rw [ee_cf hst] at h
      split at h
      · rename_i L hL
        have h9 := lw_run_snd hsc hR hd0 hcap hmask hXX hC hK k h
        rw [ab_app_eq] at h9
        rcases List.mem_cons.mp hS with rfl | hS
        · exact lw_st_snd hsc hR hd0 hcap hmask hXX hC hK hL (fun S' h' => h9 S' (List.mem_append_left _ h'))
        · exact h9 S (List.mem_append_right _ hS)
      · cases h
end LS
