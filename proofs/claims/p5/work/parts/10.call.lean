/-! ===== contracts that tell what was used; calls by them ===== -/
def mt (l : Launch) (y : MethodName) (ws : List Cond) (rm : Room) (Pc : Array Value → State → Prop) (Qc : Array Value → State → Outcome → State → Nat → Nat → Prop) (free : Addr → Prop) : Prop :=
  MetFree l y (headSpec ws rm) Pc (fun _ _ _ _ _ => True) (fun a st o t => ∃ L k n, FrameEnd st o t L k n ∧ Qc a st o t k n ∧ ∀ q ∈ L, free q.base)
def mt_post (Qc : Array Value → State → Outcome → State → Nat → Nat → Prop) (free : Addr → Prop) : Pt → Array Value → Option Value → Pt → Prop := fun A a v B =>
  ∃ (g : JFrame) (mk : MethodId) (t : State) (L : List Loc) (k n : Nat), B.U.heap = t.heap ∧ B.U.vm = t.vm ∧ Qc a (A.U.calling g mk a) (.returned v) t k n ∧ B.locs = A.locs ++ L ∧ (∀ q ∈ L, free q.base) ∧ B.cells = A.cells + k ∧ B.slots = A.slots + n
theorem mt_back {l : Launch} {R : Room} {p : Program} {e : Env} {below : List Frame} {s : State} {sargs : Array Value} {y : MethodName} {len W : Nat} {ws : List Cond} {rm : Room} {Pc : Array Value → State → Prop} {Qc : Array Value → State → Outcome → State → Nat → Nat → Prop} {mc ms : Nat} {free : Addr → Prop} {bytes : ByteArray} {maxL : Nat} {ret : Option FieldType}
    (hM : mt l y ws rm Pc Qc free) (hblind : FrameBlind Pc) (hrc : rm.cells = mc) (hrs : rm.slots = ms)
    (hframes : rm.frames + 1 ≤ R.frames) (hlocals : W + (maxL + 11) + rm.locals ≤ R.locals)
    (hws : ∀ w ∈ ws, ∀ a' U, s.WarmedH U.vm → w.before a' U = true) (hcode : Cond.code y bytes maxL ret ∈ ws) (hinit : ∀ a' U, s.WarmedH U.vm → (Cond.initialized y.cls).before a' U = true) :
    Back l R p e below s sargs y len W (PreOf R mc ms Pc) (mt_post Qc free) := by
  refine Back.of_free (S := headSpec ws rm) (P := Pc) (K := fun _ _ _ _ _ => True) (Q := fun a st o t => ∃ L k n, FrameEnd st o t L k n ∧ Qc a st o t k n ∧ ∀ q ∈ L, free q.base) (bytes := bytes) (maxL := maxL) (ret := ret)
    (E := fun a st o t L k n => Qc a st o t k n ∧ ∀ q ∈ L, free q.base) hM hframes hlocals ?_ ?_ (fun _ _ _ _ _ _ _ _ _ => trivial) ?_ ?_
  · intro m meth c A a X hp
    exact ⟨atoms_intro fun w hw => hws w hw _ _ X.warmed, hws _ hcode _ _ X.warmed, hinit _ _ X.warmed, by rw [show (headSpec ws rm).room.cells = mc from hrc]; exact hp.1, by rw [show (headSpec ws rm).room.slots = ms from hrs]; exact hp.2.1⟩
  · intro m meth c A a g mk X hp
    exact hblind _ _ _ _ hp.2.2
  · intro a st o t ⟨L, k, n, hF, hq, hL⟩
    exact ⟨L, k, n, hF, hq, hL⟩
  · intro m meth c A a g mk v t L k n X hp hq hF ⟨e1, hL⟩
    exact ⟨g, mk, t, L, k, n, rfl, rfl, e1, rfl, hL, rfl, rfl⟩
/-- how a walk ends: what was used is told -/
def mq (below : List Frame) (Qc : Array Value → State → Outcome → State → Nat → Nat → Prop) (a : Array Value) (s : State) (free : Addr → Prop) : State → Prop := fun t => ∃ k n, MQ below (fun a st o t => Qc a st o t k n) a s k n free t
theorem mt_ofW {l : Launch} {y : MethodName} {ws ws' : List Cond} {rm : Room} {Pc : Array Value → State → Prop} {Qc : Array Value → State → Outcome → State → Nat → Nat → Prop} {free : Addr → Prop} {cc : ByteArray} {maxL : Nat} {ret : Option FieldType}
    (hy : plainName y.cls = true) (hw : ws = Cond.code y cc maxL ret :: ws')
    (body : ∀ p e s m args below meth c s₁, BodyLoose p l y (headSpec ws rm) cc maxL ret e s m args below meth c s₁ → c.maxLocals = maxL → Pc args s →
      W p l e (headSpec ws rm).room s m args below meth c s.heap [] 0 0 (mq below Qc args s free) (entryFrame m args maxL)) : mt l y ws rm Pc Qc free := by
  refine MetFree.of_bodyS (code := cc) (maxLocals := maxL) (ret := ret) hy ?_ ?_
  · intro args s m h hn
    obtain ⟨meth, c, h1, h2, h3, h4, h5, h6, -, -⟩ := Cond.code_spec hn (atoms_spec (ws := ws) h _ (by rw [hw]; exact List.mem_cons_self))
    exact ⟨meth, c, h1, h2, h3, h4, h5, h6⟩
  · intro p e s m args below meth c s₁ B hml hP _
    have hh0 : s₁.heap = s.heap := by rw [B.state]; rfl
    obtain ⟨t, a1, k, n, o, b1, b2, b3, L, b4, b5⟩ := body p e s m args below meth c s₁ B hml hP s₁ hh0 (Stand.of_body B)
    exact ⟨t, o, a1, b1, b2, L, k, n, b4, b3, b5⟩
def ee_wsy (y : Nat) : List Cond := .code (ee_yn y) (ee_cb y) (ee_ml y) (ee_rt y) :: ee_good
def ee_rm (d cells slots : Nat) : Room := { frames := d, cells := cells, slots := slots, locals := 40 * d }
/-- a contract's start: the arguments and the world as P says -/
def ct_Pre (D : va_G) (dA : Nat → ClassId) (xa : List Nat) (xt : ee_X) (B : Nat) (P : List Value → va_W → Prop) : Array Value → State → Prop := fun a U =>
  ∃ (vs : List Value) (ws : va_W), a = vs.toArray ∧ P vs ws ∧ va_P D ee_cl ws U.heap ∧ va_D (fun q => B ≤ q) ws ∧ ee_G D dA xa xt B U ∧ B ≤ U.heap.size
/-- its end: the answer, the world, and what was used -/
def ct_Post (D : va_G) (B : Nat) (Qc : Option Value → va_W → Nat → Nat → Prop) : Array Value → State → Outcome → State → Nat → Nat → Prop := fun _ st o t k n =>
  (∃ (v : Option Value) (ws : va_W), o = .returned v ∧ Qc v ws k n ∧ va_P D ee_cl ws t.heap ∧ va_D (fun q => B ≤ q) ws) ∧ va_F (fun q => B ≤ q) st t
def ct (l : Launch) (D : va_G) (dA : Nat → ClassId) (xa : List Nat) (xt : ee_X) (B d y c' s' : Nat) (P : List Value → va_W → Prop) (Qc : Option Value → va_W → Nat → Nat → Prop) : Prop :=
  mt l (ee_yn y) (ee_wsy y) (ee_rm d c' s') (ct_Pre D dA xa xt B P) (ct_Post D B Qc) (fun q => B ≤ q)
theorem ct_blind {D : va_G} {dA : Nat → ClassId} {xa : List Nat} {xt : ee_X} {B : Nat} {P : List Value → va_W → Prop} : FrameBlind (ct_Pre D dA xa xt B P) := by
  intro a U g mk hP
  obtain ⟨vs, ws, h1, h2, h4, h5, h6, h7⟩ := hP
  exact ⟨vs, ws, h1, h2, h4, h5, ee_G_warm (U := U.calling g mk a) (State.WarmedH.refl U) (fun _ _ => rfl) h6, h7⟩
section CT
variable {p : Program} {l : Launch} {e : Env} {R : Room} {s : State} {m : MethodId} {args : Array Value} {below : List Frame} {meth : Method} {c : Code} {Q : State → Prop} {D : va_G} {dA : Nat → ClassId} {xa : List Nat} {xt : ee_X} {B : Nat} {y : Nat}
variable {pc a b n : Nat} {H : Heap} {locs : List Loc} {cells slots : Nat} {ls : Array Slot} {vs : List Value} {ws : va_W}
theorem ct_preU {P : List Value → va_W → Prop} {vAs : List Value} (hC : ee_C p s m args meth c D dA xa xt B y) (hp : P vAs ws) (hP : va_P D ee_cl ws H) (hD : va_D (fun q => B ≤ q) ws) (hS : va_S (fun q => B ≤ q) s.heap H locs) :
    ∀ U : State, U.heap = H → s.WarmedH U.vm → ct_Pre D dA xa xt B P vAs.toArray U := by
  intro U hU hW
  obtain ⟨-, -, -, -, -, hG, hB, -⟩ := hC
  refine ⟨vAs, ws, rfl, hp, by rw [hU]; exact hP, hD, ee_G_warm hW (fun q hq => ?_) hG, ?_⟩
  · rw [hU]
    exact hS.2.1 q (Nat.lt_of_lt_of_le hq hB) (Nat.not_le.mpr hq)
  · rw [hU]
    exact Nat.le_trans hB hS.1
/-- what the callee's Back gives, as a walk goes on -/
theorem ct_on {P : List Value → va_W → Prop} {Qc : Option Value → va_W → Nat → Nat → Prop} {T : State} {g0 : JFrame} {rest : List Value} {A : Array Value} {vm₁ : Vm} {v : Option Value} {B' : Pt} (hT : T.heap = H)
    (hpost : mt_post (ct_Post D B Qc) (fun q => B ≤ q) ⟨T.setVm vm₁, locs, cells, slots⟩ A v B') (X' : Stand p l e R s m args below meth c B'.U B'.locs B'.cells B'.slots) (hS : va_S (fun q => B ≤ q) s.heap H locs)
    (kk : ∀ (v : Option Value) (ws1 : va_W) (H1 : Heap) (locs1 : List Loc) (k n : Nat), Qc v ws1 k n → va_P D ee_cl ws1 H1 → va_D (fun q => B ≤ q) ws1 → va_S (fun q => B ≤ q) s.heap H1 locs1 → W p l e R s m args below meth c H1 locs1 (cells + k) (slots + n) Q { g0 with pc := g0.pc + 3, stack := v.toList ++ rest }) :
    ∃ t, Steps p.tables e below (B'.U.setTop { g0 with pc := g0.pc + 3, stack := v.toList ++ rest }) t ∧ Q t := by
  obtain ⟨U', l2, c2, s2⟩ := B'
  obtain ⟨g', mk, t, L, k, n, e1, e2, ⟨⟨v', ws1, hv, hq, hb1, hb2⟩, hz, hk⟩, h1, hL, h2, h3⟩ := hpost
  dsimp only [Pt.U, Pt.locs, Pt.cells, Pt.slots] at X' e1 e2 h1 h2 h3 hz hk ⊢
  cases hv
  subst h1; subst h2; subst h3
  have hz' : H.size ≤ t.heap.size := by rw [← hT]; exact hz
  have hk' : ∀ q : Nat, q < H.size → ¬ B ≤ q → t.heap[q]? = H[q]? := by
    intro q h1 h2
    rw [← hT] at h1 ⊢
    exact hk q h1 h2
  obtain ⟨t2, a1, b1⟩ := kk v ws1 U'.heap (locs ++ L) k n hq (by rw [e1]; exact hb1) hb2
    ⟨Nat.le_trans hS.1 (by rw [e1]; exact hz'), fun q h1 h2 => by rw [e1, hk' q (Nat.lt_of_lt_of_le h1 hS.1) h2]; exact hS.2.1 q h1 h2, fun q hq => by
      rcases List.mem_append.mp hq with h | h
      · exact hS.2.2 q h
      · exact hL q h⟩ U' rfl X'
  exact ⟨t2, a1, b1⟩
end CT
