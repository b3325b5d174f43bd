/-! ===== texts: length and charAt, by contracts of the JDK's own methods ===== -/
def jn_len : MethodName := ⟨"java/lang/String", "length", "()I"⟩
def jn_cod : MethodName := ⟨"java/lang/String", "coder", "()B"⟩
def jn_lat : MethodName := ⟨"java/lang/String", "isLatin1", "()Z"⟩
def jn_chr : MethodName := ⟨"java/lang/String", "charAt", "(I)C"⟩
def jn_lch : MethodName := ⟨"java/lang/StringLatin1", "charAt", "([BI)C"⟩
def jn_chk : MethodName := ⟨"java/lang/String", "checkIndex", "(II)V"⟩
def jn_pre : MethodName := ⟨"jdk/internal/util/Preconditions", "checkIndex", "(IILjava/util/function/BiFunction;)I"⟩
theorem jw_iS : Cond.initialized "java/lang/String" ∈ ee_good := ee_gw_in (pos := 125) (by decide +kernel)
theorem jw_iL : Cond.initialized "java/lang/StringLatin1" ∈ ee_good := ee_gw_in (pos := 126) (by decide +kernel)
theorem jw_iP : Cond.initialized "jdk/internal/util/Preconditions" ∈ ee_good := ee_gw_in (pos := 127) (by decide +kernel)
theorem jw_len_i : Cond.instanceMethod jn_len ∈ ee_good := ee_gw_in (pos := 581) (by decide +kernel)
theorem jw_len_s : Cond.selects "java/lang/String" jn_len jn_len ∈ ee_good := ee_gw_in (pos := 582) (by decide +kernel)
theorem jw_cod_i : Cond.instanceMethod jn_cod ∈ ee_good := ee_gw_in (pos := 585) (by decide +kernel)
theorem jw_cod_s : Cond.selects "java/lang/String" jn_cod jn_cod ∈ ee_good := ee_gw_in (pos := 586) (by decide +kernel)
theorem jw_ch_i : Cond.instanceMethod jn_chr ∈ ee_good := ee_gw_in (pos := 591) (by decide +kernel)
theorem jw_ch_s : Cond.selects "java/lang/String" jn_chr jn_chr ∈ ee_good := ee_gw_in (pos := 592) (by decide +kernel)
theorem jw_la_i : Cond.instanceMethod jn_lat ∈ ee_good := ee_gw_in (pos := 595) (by decide +kernel)
theorem jw_la_s : Cond.selects "java/lang/String" jn_lat jn_lat ∈ ee_good := ee_gw_in (pos := 596) (by decide +kernel)
theorem jw_len_c : Cond.code jn_len prog_19_method_54_code 1 (some .int) ∈ ee_good := ee_gw_in (pos := 583) (by decide +kernel)
theorem jw_cod_c : Cond.code jn_cod prog_19_method_152_code 1 (some .byte) ∈ ee_good := ee_gw_in (pos := 587) (by decide +kernel)
theorem jw_ch_c : Cond.code jn_chr prog_19_method_56_code 2 (some .char) ∈ ee_good := ee_gw_in (pos := 593) (by decide +kernel)
theorem jw_la_c : Cond.code jn_lat prog_19_method_154_code 1 (some .boolean) ∈ ee_good := ee_gw_in (pos := 597) (by decide +kernel)
theorem jw_lc_c : Cond.code jn_lch prog_20_method_2_code 2 (some .char) ∈ ee_good := ee_gw_in (pos := 600) (by decide +kernel)
theorem jw_ck_c : Cond.code jn_chk prog_19_method_155_code 2 none ∈ ee_good := ee_gw_in (pos := 603) (by decide +kernel)
theorem jw_pr_c : Cond.code jn_pre prog_24_method_11_code 3 (some .int) ∈ ee_good := ee_gw_in (pos := 608) (by decide +kernel)
theorem jw_lc_st : Cond.static jn_lch ∈ ee_good := ee_gw_in (pos := 599) (by decide +kernel)
theorem jw_ck_st : Cond.static jn_chk ∈ ee_good := ee_gw_in (pos := 602) (by decide +kernel)
theorem jw_pr_st : Cond.static jn_pre ∈ ee_good := ee_gw_in (pos := 607) (by decide +kernel)
theorem jw_cod_l : Cond.methodLink "java/lang/String" 335 jn_cod ∈ ee_good := ee_gw_in (pos := 584) (by decide +kernel)
theorem jw_la_l : Cond.methodLink "java/lang/String" 492 jn_lat ∈ ee_good := ee_gw_in (pos := 594) (by decide +kernel)
theorem jw_lc_l : Cond.methodLink "java/lang/String" 495 jn_lch ∈ ee_good := ee_gw_in (pos := 598) (by decide +kernel)
theorem jw_ck_l : Cond.methodLink "java/lang/StringLatin1" 9 jn_chk ∈ ee_good := ee_gw_in (pos := 601) (by decide +kernel)
theorem jw_pr_l : Cond.methodLink "java/lang/String" 1059 jn_pre ∈ ee_good := ee_gw_in (pos := 606) (by decide +kernel)
theorem jw_cs_f : Cond.fieldLink "java/lang/String" 38 "java/lang/String" "COMPACT_STRINGS" "Z" ∈ ee_good := ee_gw_in (pos := 588) (by decide +kernel)
theorem jw_sf_f : Cond.fieldLink "java/lang/String" 1053 "jdk/internal/util/Preconditions" "SIOOBE_FORMATTER" "Ljava/util/function/BiFunction;" ∈ ee_good := ee_gw_in (pos := 604) (by decide +kernel)
theorem jw_val_f : Cond.fieldLink "java/lang/String" 9 "java/lang/String" "value" "[B" ∈ ee_good := ee_gw_in (pos := 1750) (by decide +kernel)
theorem jw_cod_f : Cond.fieldLink "java/lang/String" 15 "java/lang/String" "coder" "B" ∈ ee_good := ee_gw_in (pos := 1751) (by decide +kernel)
theorem jd_len_0 : decode prog_19_method_54_code 0 = .ok (.aload_n 0, 1) := by decide +kernel
theorem jd_len_1 : decode prog_19_method_54_code 1 = .ok (.getfield 9, 3) := by decide +kernel
theorem jd_len_4 : decode prog_19_method_54_code 4 = .ok (.arraylength, 1) := by decide +kernel
theorem jd_len_5 : decode prog_19_method_54_code 5 = .ok (.aload_n 0, 1) := by decide +kernel
theorem jd_len_6 : decode prog_19_method_54_code 6 = .ok (.invokevirtual 335, 3) := by decide +kernel
theorem jd_len_9 : decode prog_19_method_54_code 9 = .ok (.ishr, 1) := by decide +kernel
theorem jd_len_10 : decode prog_19_method_54_code 10 = .ok (.ireturn, 1) := by decide +kernel
theorem jd_cod_0 : decode prog_19_method_152_code 0 = .ok (.getstatic 38, 3) := by decide +kernel
theorem jd_cod_3 : decode prog_19_method_152_code 3 = .ok (.ifCond .eq 10, 3) := by decide +kernel
theorem jd_cod_6 : decode prog_19_method_152_code 6 = .ok (.aload_n 0, 1) := by decide +kernel
theorem jd_cod_7 : decode prog_19_method_152_code 7 = .ok (.getfield 15, 3) := by decide +kernel
theorem jd_cod_10 : decode prog_19_method_152_code 10 = .ok (.goto 4, 3) := by decide +kernel
theorem jd_cod_14 : decode prog_19_method_152_code 14 = .ok (.ireturn, 1) := by decide +kernel
theorem jd_lat_0 : decode prog_19_method_154_code 0 = .ok (.getstatic 38, 3) := by decide +kernel
theorem jd_lat_3 : decode prog_19_method_154_code 3 = .ok (.ifCond .eq 14, 3) := by decide +kernel
theorem jd_lat_6 : decode prog_19_method_154_code 6 = .ok (.aload_n 0, 1) := by decide +kernel
theorem jd_lat_7 : decode prog_19_method_154_code 7 = .ok (.getfield 15, 3) := by decide +kernel
theorem jd_lat_10 : decode prog_19_method_154_code 10 = .ok (.ifCond .ne 7, 3) := by decide +kernel
theorem jd_lat_13 : decode prog_19_method_154_code 13 = .ok (.iconst 1, 1) := by decide +kernel
theorem jd_lat_14 : decode prog_19_method_154_code 14 = .ok (.goto 4, 3) := by decide +kernel
theorem jd_lat_18 : decode prog_19_method_154_code 18 = .ok (.ireturn, 1) := by decide +kernel
theorem jd_chr_0 : decode prog_19_method_56_code 0 = .ok (.aload_n 0, 1) := by decide +kernel
theorem jd_chr_1 : decode prog_19_method_56_code 1 = .ok (.invokevirtual 492, 3) := by decide +kernel
theorem jd_chr_4 : decode prog_19_method_56_code 4 = .ok (.ifCond .eq 12, 3) := by decide +kernel
theorem jd_chr_7 : decode prog_19_method_56_code 7 = .ok (.aload_n 0, 1) := by decide +kernel
theorem jd_chr_8 : decode prog_19_method_56_code 8 = .ok (.getfield 9, 3) := by decide +kernel
theorem jd_chr_11 : decode prog_19_method_56_code 11 = .ok (.iload_n 1, 1) := by decide +kernel
theorem jd_chr_12 : decode prog_19_method_56_code 12 = .ok (.invokestatic 495, 3) := by decide +kernel
theorem jd_chr_15 : decode prog_19_method_56_code 15 = .ok (.ireturn, 1) := by decide +kernel
theorem jd_lch_0 : decode prog_20_method_2_code 0 = .ok (.iload_n 1, 1) := by decide +kernel
theorem jd_lch_1 : decode prog_20_method_2_code 1 = .ok (.aload_n 0, 1) := by decide +kernel
theorem jd_lch_2 : decode prog_20_method_2_code 2 = .ok (.arraylength, 1) := by decide +kernel
theorem jd_lch_3 : decode prog_20_method_2_code 3 = .ok (.invokestatic 9, 3) := by decide +kernel
theorem jd_lch_6 : decode prog_20_method_2_code 6 = .ok (.aload_n 0, 1) := by decide +kernel
theorem jd_lch_7 : decode prog_20_method_2_code 7 = .ok (.iload_n 1, 1) := by decide +kernel
theorem jd_lch_8 : decode prog_20_method_2_code 8 = .ok (.baload, 1) := by decide +kernel
theorem jd_lch_9 : decode prog_20_method_2_code 9 = .ok (.sipush 255, 3) := by decide +kernel
theorem jd_lch_12 : decode prog_20_method_2_code 12 = .ok (.iand, 1) := by decide +kernel
theorem jd_lch_13 : decode prog_20_method_2_code 13 = .ok (.i2c, 1) := by decide +kernel
theorem jd_lch_14 : decode prog_20_method_2_code 14 = .ok (.ireturn, 1) := by decide +kernel
theorem jd_chk_0 : decode prog_19_method_155_code 0 = .ok (.iload_n 0, 1) := by decide +kernel
theorem jd_chk_1 : decode prog_19_method_155_code 1 = .ok (.iload_n 1, 1) := by decide +kernel
theorem jd_chk_2 : decode prog_19_method_155_code 2 = .ok (.getstatic 1053, 3) := by decide +kernel
theorem jd_chk_5 : decode prog_19_method_155_code 5 = .ok (.invokestatic 1059, 3) := by decide +kernel
theorem jd_chk_8 : decode prog_19_method_155_code 8 = .ok (.pop, 1) := by decide +kernel
theorem jd_chk_9 : decode prog_19_method_155_code 9 = .ok (.return_, 1) := by decide +kernel
theorem jd_pre_0 : decode prog_24_method_11_code 0 = .ok (.iload_n 0, 1) := by decide +kernel
theorem jd_pre_1 : decode prog_24_method_11_code 1 = .ok (.ifCond .lt 8, 3) := by decide +kernel
theorem jd_pre_4 : decode prog_24_method_11_code 4 = .ok (.iload_n 0, 1) := by decide +kernel
theorem jd_pre_5 : decode prog_24_method_11_code 5 = .ok (.iload_n 1, 1) := by decide +kernel
theorem jd_pre_6 : decode prog_24_method_11_code 6 = .ok (.if_icmp .lt 10, 3) := by decide +kernel
theorem jd_pre_16 : decode prog_24_method_11_code 16 = .ok (.iload_n 0, 1) := by decide +kernel
theorem jd_pre_17 : decode prog_24_method_11_code 17 = .ok (.ireturn, 1) := by decide +kernel
theorem jp_cod : (parseMethodDescriptor jn_cod.desc).map (fun d => d.parameters.length) = some 0 := by decide +kernel
theorem jp_lat : (parseMethodDescriptor jn_lat.desc).map (fun d => d.parameters.length) = some 0 := by decide +kernel
theorem jp_len : (parseMethodDescriptor jn_len.desc).map (fun d => d.parameters.length) = some 0 := by decide +kernel
theorem jp_chr : (parseMethodDescriptor jn_chr.desc).map (fun d => d.parameters.length) = some 1 := by decide +kernel
theorem jp_lch : (parseMethodDescriptor jn_lch.desc).map (fun d => d.parameters.length) = some 2 := by decide +kernel
theorem jp_chk : (parseMethodDescriptor jn_chk.desc).map (fun d => d.parameters.length) = some 2 := by decide +kernel
theorem jp_pre : (parseMethodDescriptor jn_pre.desc).map (fun d => d.parameters.length) = some 3 := by decide +kernel
/-- a contract of a method that is not in the tables of the program -/
def jt (l : Launch) (D : va_G) (dA : Nat → ClassId) (xa : List Nat) (xt : ee_X) (B d : Nat) (yn : MethodName) (cd : ByteArray) (nl : Nat) (rt : Option FieldType) (P : List Value → va_W → Prop) (Qc : Option Value → va_W → Nat → Nat → Prop) : Prop :=
  mt l yn (Cond.code yn cd nl rt :: ee_good) (ee_rm d 0 0) (ct_Pre D dA xa xt B P) (ct_Post D B Qc) (fun q => B ≤ q)
/-- what holds in its body -/
def jc (p : Program) (s : State) (m : MethodId) (args : Array Value) (meth : Method) (c : Code) (D : va_G) (dA : Nat → ClassId) (xa : List Nat) (xt : ee_X) (B : Nat) (own : String) (cd : ByteArray) (nl : Nat) (rt : Option FieldType) : Prop :=
  p.tables.exec = Jvm.exec ∧ c.code = cd ∧ c.maxLocals = nl ∧ s.vm.findClass own = some m.cls ∧ (∀ w ∈ ee_good, w.before args s = true) ∧ ee_G D dA xa xt B s ∧ B ≤ s.heap.size ∧ meth.locks = false ∧ meth.sig.returnType = rt
theorem jt_wd {args : Array Value} {s : State} (hts : ∀ w ∈ ee_good, w.before args s = true) {w : Cond} (hw : w ∈ ee_good) (a' : Array Value) (U : State) (hW : s.WarmedH U.vm) : w.before a' U = true := word_at hW (good_of_word (List.mem_filter.mp hw).2) (hts w hw)
section JT
variable {p : Program} {l : Launch} {e : Env} {R : Room} {s : State} {m : MethodId} {args : Array Value} {below : List Frame} {meth : Method} {c : Code} {Q : State → Prop} {D : va_G} {dA : Nat → ClassId} {xa : List Nat} {xt : ee_X} {B : Nat}
variable {pc : Nat} {H : Heap} {locs : List Loc} {cells slots : Nat} {ls : Array Slot} {ws : va_W} {d : Nat} {P : List Value → va_W → Prop} {Qc : Option Value → va_W → Nat → Nat → Prop} {yn : MethodName} {cd cc : ByteArray} {nl : Nat} {rt : Option FieldType}
theorem jt_of (hpl : plainName yn.cls = true) (hlen : ∀ vs ws, P vs ws → (lg_sl vs).length ≤ nl)
    (body : ∀ (p : Program) (e : Env) (s : State) (m : MethodId) (vs : List Value) (below : List Frame) (meth : Method) (c : Code) (ws : va_W) (ls : Array Slot), jc p s m vs.toArray meth c D dA xa xt B yn.cls cd nl rt → P vs ws → va_P D ee_cl ws s.heap → va_D (fun q => B ≤ q) ws → va_S (fun q => B ≤ q) s.heap s.heap [] → lv_has ls nl (lv_args 0 vs) →
      W p l e (ee_rm d 0 0) s m vs.toArray below meth c s.heap [] 0 0 (mq below (ct_Post D B Qc) vs.toArray s (fun q => B ≤ q)) (F0 m 0 ls [])) : jt l D dA xa xt B d yn cd nl rt P Qc := by
  refine mt_ofW (cc := cd) (maxL := nl) (ret := rt) hpl rfl ?_
  intro p e s m args below meth c s₁ Bd hml hv
  obtain ⟨vs, ws, rfl, hp, hP, hD, hG, hB⟩ := hv
  have hts0 := atoms_spec (ws := Cond.code yn cd nl rt :: ee_good) Bd.pre
  have hts : ∀ w ∈ ee_good, w.before vs.toArray s = true := fun w hw => hts0 w (List.mem_cons_of_mem _ hw)
  have hC : jc p s m vs.toArray meth c D dA xa xt B yn.cls cd nl rt := ⟨Bd.exec, Bd.bytes, hml, findClass_of_methodNamed Bd.named, hts, hG, hB, Bd.notSynchronized, Bd.returns⟩
  have hl := lv_entry vs (n := nl) (hlen vs ws hp)
  rw [lg_entry_eq]
  exact body p e s m vs below meth c ws _ hC hp hP hD va_S.rf hl
theorem jt_hk (hR : d ≤ R.frames ∧ 40 * d ≤ R.locals) (hd0 : 0 < d) (hts : ∀ w ∈ ee_good, w.before args s = true) (hnl : nl ≤ 21) (hcw : Cond.code yn cd nl rt ∈ ee_good) (hin : Cond.initialized yn.cls ∈ ee_good) (hM : jt l D dA xa xt B (d - 1) yn cd nl rt P Qc) : Back l R p e below s args yn 3 8 (PreOf R 0 0 (ct_Pre D dA xa xt B P)) (mt_post (ct_Post D B Qc) (fun q => B ≤ q)) := by
  refine mt_back (bytes := cd) (maxL := nl) (ret := rt) hM ct_blind rfl rfl (by show d - 1 + 1 ≤ _; omega) (by show 8 + (nl + 11) + 40 * (d - 1) ≤ _; omega) (fun w hw a' U hW => ?_) List.mem_cons_self (fun a' U hW => jt_wd hts hin a' U hW)
  rcases List.mem_cons.mp hw with rfl | h
  · exact jt_wd hts hcw a' U hW
  · exact jt_wd hts h a' U hW
theorem jt_pU {vAs : List Value} (hG : ee_G D dA xa xt B s) (hB : B ≤ s.heap.size) (hp : P vAs ws) (hP : va_P D ee_cl ws H) (hD : va_D (fun q => B ≤ q) ws) (hS : va_S (fun q => B ≤ q) s.heap H locs) :
    ∀ U : State, U.heap = H → s.WarmedH U.vm → ct_Pre D dA xa xt B P vAs.toArray U := by
  intro U hU hW
  refine ⟨vAs, ws, rfl, hp, by rw [hU]; exact hP, hD, ee_G_warm hW (fun q hq => ?_) hG, ?_⟩
  · rw [hU]
    exact hS.2.1 q (Nat.lt_of_lt_of_le hq hB) (Nat.not_le.mpr hq)
  · rw [hU]
    exact Nat.le_trans hB hS.1
/-- a static call of such a method -/
theorem jt_S (hR : d ≤ R.frames ∧ 40 * d ≤ R.locals) (hd0 : 0 < d) (he : p.tables.exec = Jvm.exec) (hb : c.code = cc) {own : String} {index : Nat} (hown : s.vm.findClass own = some m.cls) (hts : ∀ w ∈ ee_good, w.before args s = true) (hG : ee_G D dA xa xt B s) (hB : B ≤ s.heap.size) (hml : c.maxLocals = ls.size)
    (hM : jt l D dA xa xt B (d - 1) yn cd nl rt P Qc) (hnl : nl ≤ 21) (hcw : Cond.code yn cd nl rt ∈ ee_good) (hin : Cond.initialized yn.cls ∈ ee_good) (hst : Cond.static yn ∈ ee_good) (hlk : Cond.methodLink own index yn ∈ ee_good) (hmh : yn.cls ≠ "java/lang/invoke/MethodHandle" ∧ yn.cls ≠ "java/lang/invoke/VarHandle") {vAs vr : List Value} (hnp : (parseMethodDescriptor yn.desc).map (fun d => d.parameters.length) = some vAs.length)
    (hP : va_P D ee_cl ws H) (hD : va_D (fun q => B ≤ q) ws) (hS : va_S (fun q => B ≤ q) s.heap H locs) (hp : P vAs ws) (hcat : (vr.map fun v => v.category).sum ≤ 8) (hcap : cells ≤ R.cells ∧ slots ≤ R.slots) (hdg : decode cc pc = .ok (.invokestatic index, 3))
    (kk : ∀ (v : Option Value) (ws1 : va_W) (H1 : Heap) (locs1 : List Loc) (k n : Nat), Qc v ws1 k n → va_P D ee_cl ws1 H1 → va_D (fun q => B ≤ q) ws1 → va_S (fun q => B ≤ q) s.heap H1 locs1 → W p l e R s m args below meth c H1 locs1 (cells + k) (slots + n) Q (F0 m (pc + 3) ls (v.toList ++ vr))) :
    W p l e R s m args below meth c H locs cells slots Q (F0 m pc ls (vAs.reverse ++ vr)) := by
  have hK := jt_hk (p := p) (e := e) (below := below) hR hd0 hts hnl hcw hin hM
  have hpar : ∀ sig, parseMethodDescriptor yn.desc = some sig → vAs.length = sig.parameters.length := by
    intro sig hsig
    rw [hsig] at hnp
    exact (Option.some.inj hnp).symm
  intro T0 hT X
  obtain ⟨v, vm₁, B', hW₁, X', hpost, st⟩ := callS X he (bytes := cd) (maxL := nl) (ret := rt) hown (hts _ hlk) (hts _ hst) (hts _ hin) (hts _ hcw) hmh hK (g := F0 m pc ls (vAs.reverse ++ vr)) rfl hml.symm (argsL := vAs) (rest := vr) hpar rfl (by show 2 * 0 + _ ≤ 8; omega) (by rw [hb]; exact hdg)
    (fun vm₁ hW₁ => ⟨hcap.1, hcap.2, jt_pU hG hB hp hP hD hS (T0.setVm vm₁) hT hW₁⟩)
  obtain ⟨t2, a1, b1⟩ := ct_on (P := P) (g0 := F0 m pc ls (vAs.reverse ++ vr)) (rest := vr) hT hpost X' hS kk
  exact ⟨t2, st t2 a1, b1⟩
/-- a call on a text -/
theorem jt_V (hR : d ≤ R.frames ∧ 40 * d ≤ R.locals) (hd0 : 0 < d) (he : p.tables.exec = Jvm.exec) (hb : c.code = cc) {own : String} {index : Nat} (hown : s.vm.findClass own = some m.cls) (hts : ∀ w ∈ ee_good, w.before args s = true) (hG : ee_G D dA xa xt B s) (hB : B ≤ s.heap.size) (hml : c.maxLocals = ls.size)
    (hM : jt l D dA xa xt B (d - 1) yn cd nl rt P Qc) (hnl : nl ≤ 21) (hcw : Cond.code yn cd nl rt ∈ ee_good) (hcls : yn.cls = "java/lang/String") (hin : Cond.instanceMethod yn ∈ ee_good) (hsel : Cond.selects "java/lang/String" yn yn ∈ ee_good) (hlk : Cond.methodLink own index yn ∈ ee_good) {ax : Nat} {vAs vr : List Value} (hnp : (parseMethodDescriptor yn.desc).map (fun d => d.parameters.length) = some vAs.length) (hO : va_O "java/lang/String" ax (fun q => B ≤ q) s s.heap)
    (hP : va_P D ee_cl ws H) (hD : va_D (fun q => B ≤ q) ws) (hS : va_S (fun q => B ≤ q) s.heap H locs) (hp : P (.ref ax :: vAs) ws) (hcat : (vr.map fun v => v.category).sum ≤ 8) (hcap : cells ≤ R.cells ∧ slots ≤ R.slots) (hdg : decode cc pc = .ok (.invokevirtual index, 3))
    (kk : ∀ (v : Option Value) (ws1 : va_W) (H1 : Heap) (locs1 : List Loc) (k n : Nat), Qc v ws1 k n → va_P D ee_cl ws1 H1 → va_D (fun q => B ≤ q) ws1 → va_S (fun q => B ≤ q) s.heap H1 locs1 → W p l e R s m args below meth c H1 locs1 (cells + k) (slots + n) Q (F0 m (pc + 3) ls (v.toList ++ vr))) :
    W p l e R s m args below meth c H locs cells slots Q (F0 m pc ls (vAs.reverse ++ .ref ax :: vr)) := by
  have hK := jt_hk (p := p) (e := e) (below := below) hR hd0 hts hnl hcw (by rw [hcls]; exact jw_iS) hM
  have hpar : ∀ sig, parseMethodDescriptor yn.desc = some sig → vAs.length = sig.parameters.length := by
    intro sig hsig
    rw [hsig] at hnp
    exact (Option.some.inj hnp).symm
  obtain ⟨cellB, g1, g2, g3, -⟩ := hO.kept hS.2.1
  intro T0 hT X
  obtain ⟨v, vm₁, B', hW₁, X', hpost, st⟩ := callV X he (C := "java/lang/String") (bytes := cd) (maxL := nl) (ret := rt) hown (hts _ hlk) (hts _ hin) (hts _ hsel) (hts _ hcw) (by rw [hcls]; exact ⟨by decide +kernel, by decide +kernel⟩) hK (by rw [hT]; exact g1) g2 g3 (g := F0 m pc ls (vAs.reverse ++ .ref ax :: vr)) rfl hml.symm (argsL := vAs) (rest := vr) hpar rfl (by show 2 * 0 + _ ≤ 8; omega) (by rw [hb]; exact hdg)
    (fun vm₁ hW₁ => ⟨hcap.1, hcap.2, jt_pU hG hB hp hP hD hS (T0.setVm vm₁) hT hW₁⟩)
  obtain ⟨t2, a1, b1⟩ := ct_on (P := P) (g0 := F0 m pc ls (vAs.reverse ++ .ref ax :: vr)) (rest := vr) hT hpost X' hS kk
  exact ⟨t2, st t2 a1, b1⟩
/-- an int is the answer, nothing changed -/
def jq (x : Int32) (ws0 : va_W) : Option Value → va_W → Nat → Nat → Prop := fun v ws k n => v = some (.int x) ∧ ws = ws0 ∧ k = 0 ∧ n = 0
theorem jt_z {own : String} (hC : jc p s m args meth c D dA xa xt B own cd nl rt) {x : Int32} {ty : FieldType} {ws0 : va_W} (hr : rt = some ty) (hn : narrow ty (.int x) = .int x) (hP : va_P D ee_cl ws0 H) (hD : va_D (fun q => B ≤ q) ws0) (hS : va_S (fun q => B ≤ q) s.heap H locs) (hdg : decode cd pc = .ok (.ireturn, 1)) : W p l e R s m args below meth c H locs 0 0 (mq below (ct_Post D B (jq x ws0)) args s (fun q => B ≤ q)) (F0 m pc ls [.int x]) := by
  obtain ⟨he, hb, hml, hown, hts, hG, hB, hlk, hrt⟩ := hC
  exact mq_mono (Q1 := fun a st o t => ct_Post D B (jq x ws0) a st o t 0 0) (fun _ _ h => h) (W.zret he hb (hrt.trans hr) hn (fun t ht hW => ⟨⟨some (.int x), ws0, rfl, ⟨rfl, rfl, rfl, rfl⟩, by rw [ht]; exact hP, hD⟩, hS.F ht⟩) hS.2.2 hdg hlk)
theorem ee_tx_all : ((List.range 23).all fun j => Nat.blt j 2 || (ee_str.any (fun q => Nat.beq q.2.2.2 j) && (Nat.blt (ee_txb j).length 64 && (ee_txb j).all (fun z => Nat.blt z 128)))) = true := by decide +kernel
theorem ee_tx_in (hG : ee_G D dA xa xt B s) {j a : Nat} (h2 : 2 ≤ j) (h23 : j < 23) (hj : xa[j]? = some a) : ∃ b, xa[j + 21]? = some b ∧ ee_txT j a b B s := by
  have h := List.all_eq_true.mp ee_tx_all j (List.mem_range.mpr h23)
  rw [Bool.or_eq_true, Bool.and_eq_true] at h
  rcases h with h | h
  · have h9 : j < 2 := Nat.le_of_ble_eq_true h
    omega
  · obtain ⟨q, hq, e9⟩ := List.any_eq_true.mp h.1
    have e8 : q.2.2.2 = j := Nat.eq_of_beq_eq_true e9
    obtain ⟨a', g1, -, b9, g3, g2⟩ := hG.2.2.2.1 q hq
    rw [e8] at g1 g2 g3
    rw [hj] at g1
    cases g1
    exact ⟨b9, g3, g2⟩
theorem ee_tx_len {j : Nat} (h2 : 2 ≤ j) (h23 : j < 23) : (ee_txb j).length < 64 ∧ ∀ i, i < (ee_txb j).length → (ee_txb j).getD i 0 < 128 := by
  have h := List.all_eq_true.mp ee_tx_all j (List.mem_range.mpr h23)
  rw [Bool.or_eq_true, Bool.and_eq_true, Bool.and_eq_true] at h
  rcases h with h | h
  · have h9 : j < 2 := Nat.le_of_ble_eq_true h
    omega
  · refine ⟨Nat.le_of_ble_eq_true h.2.1, fun i hi => ?_⟩
    have h9 := List.all_eq_true.mp h.2.2 ((ee_txb j).getD i 0) (by rw [List.getD_eq_getElem?_getD, List.getElem?_eq_getElem hi]; exact List.getElem_mem hi)
    exact Nat.le_of_ble_eq_true h9
theorem jv_shr : ∀ n, n < 64 → Int32.ofNat n >>> ((0 : Int32) &&& 31) = Int32.ofNat n := by decide +kernel
theorem jv_chr : ∀ n, n < 128 → ((Int32.ofNat n &&& 255).toUInt32 % 65536).toInt32 = Int32.ofNat n ∧ narrow .char (.int (Int32.ofNat n)) = .int (Int32.ofNat n) := by decide +kernel
theorem jv_num : ∀ n, n < 64 → ¬ Int32.ofNat n < 0 ∧ (Int32.ofNat n).toNatClampNeg = n ∧ (Int32.ofNat n).toInt = (n : Int) := by decide +kernel
theorem jv_lt {i n : Nat} (hi : i < 64) (hn : n < 64) (h : i < n) : Int32.ofNat i < Int32.ofNat n := by
  rw [Int32.lt_iff_toInt_lt, (jv_num i hi).2.2, (jv_num n hn).2.2]
  omega
/-! the bodies -/
theorem jk_cod {j a d : Nat} (hd : 1 ≤ d) (h2 : 2 ≤ j) (h23 : j < 23) (hj : xa[j]? = some a) (ws0 : va_W) : jt l D dA xa xt B d jn_cod prog_19_method_152_code 1 (some .byte) (fun vs ws => vs = [.ref a] ∧ ws = ws0) (jq 0 ws0) := by
  refine jt_of (by decide +kernel) ?_ ?_
  · rintro vs ws ⟨rfl, rfl⟩
    exact Nat.le_refl _
  · rintro p e s m vs below meth c ws ls hC ⟨rfl, rfl⟩ hP hD hS hl
    obtain ⟨he, hb, hml, hown, hts, hG, hB, hlk, hrt⟩ := id hC
    obtain ⟨b, hb9, ⟨hO, hc, hv, hT⟩, hZ, -⟩ := ee_tx_in hG h2 h23 hj
    refine va_gets he hb hZ hS hown (hts _ jw_cs_f) (fun x h9 => h9) jd_cod_0 ?_
    refine lv_if_eq he hb jd_cod_3 (tgt := 13) (by decide) (fun h9 => absurd h9 (by decide)) (fun _ => ?_)
    refine lv_aload_n he hb jd_cod_6 rfl (lv_at hl 0 rfl) ?_
    refine vk_getf he hb hc hS hown (hts _ jw_cod_f) (fun x h9 => h9) jd_cod_7 ?_
    refine lv_goto he hb jd_cod_10 (tgt := 14) (by decide) ?_
    exact jt_z hC rfl (by decide +kernel) hP hD hS jd_cod_14
theorem jk_lat {j a d : Nat} (hd : 1 ≤ d) (h2 : 2 ≤ j) (h23 : j < 23) (hj : xa[j]? = some a) (ws0 : va_W) : jt l D dA xa xt B d jn_lat prog_19_method_154_code 1 (some .boolean) (fun vs ws => vs = [.ref a] ∧ ws = ws0) (jq 1 ws0) := by
  refine jt_of (by decide +kernel) ?_ ?_
  · rintro vs ws ⟨rfl, rfl⟩
    exact Nat.le_refl _
  · rintro p e s m vs below meth c ws ls hC ⟨rfl, rfl⟩ hP hD hS hl
    obtain ⟨he, hb, hml, hown, hts, hG, hB, hlk, hrt⟩ := id hC
    obtain ⟨b, hb9, ⟨hO, hc, hv, hT⟩, hZ, -⟩ := ee_tx_in hG h2 h23 hj
    refine va_gets he hb hZ hS hown (hts _ jw_cs_f) (fun x h9 => h9) jd_lat_0 ?_
    refine lv_if_eq he hb jd_lat_3 (tgt := 17) (by decide) (fun h9 => absurd h9 (by decide)) (fun _ => ?_)
    refine lv_aload_n he hb jd_lat_6 rfl (lv_at hl 0 rfl) ?_
    refine vk_getf he hb hc hS hown (hts _ jw_cod_f) (fun x h9 => h9) jd_lat_7 ?_
    refine lv_if_ne he hb jd_lat_10 (tgt := 17) (by decide) (fun h9 => absurd rfl h9) (fun _ => ?_)
    refine lv_iconst he hb jd_lat_13 (v := 1) (by decide) ?_
    refine lv_goto he hb jd_lat_14 (tgt := 18) (by decide) ?_
    exact jt_z hC rfl (by decide +kernel) hP hD hS jd_lat_18
theorem jk_len {j a d : Nat} (hd : 2 ≤ d) (h2 : 2 ≤ j) (h23 : j < 23) (hj : xa[j]? = some a) (ws0 : va_W) : jt l D dA xa xt B d jn_len prog_19_method_54_code 1 (some .int) (fun vs ws => vs = [.ref a] ∧ ws = ws0) (jq (Int32.ofNat (ee_txb j).length) ws0) := by
  refine jt_of (by decide +kernel) ?_ ?_
  · rintro vs ws ⟨rfl, rfl⟩
    exact Nat.le_refl _
  · rintro p e s m vs below meth c ws ls hC ⟨rfl, rfl⟩ hP hD hS hl
    obtain ⟨he, hb, hml, hown, hts, hG, hB, hlk, hrt⟩ := id hC
    obtain ⟨b, hb9, ⟨hO, hc, hv, hT⟩, hZ, -⟩ := ee_tx_in hG h2 h23 hj
    obtain ⟨cell, t1, t2, t3, t4, t5, t6, t7⟩ := hT.kept hS.2.1
    have hsz : c.maxLocals = ls.size := hml.trans hl.1.symm
    refine lv_aload_n he hb jd_len_0 rfl (lv_at hl 0 rfl) ?_
    refine vk_getf he hb hv hS hown (hts _ jw_val_f) (fun x h9 => h9) jd_len_1 ?_
    refine W.alen he hb t1 t2 t5 (g := F0 m 4 ls [.ref b]) rfl (rest := []) rfl jd_len_4 ?_
    show W p l e _ s m _ below meth c s.heap [] 0 0 _ (F0 m 5 ls [.int (Int32.ofNat (ee_txb j).length)])
    refine lv_aload_n he hb jd_len_5 rfl (lv_at hl 0 rfl) ?_
    refine jt_V (d := d) (vAs := []) (vr := [.int (Int32.ofNat (ee_txb j).length)]) ⟨Nat.le_refl _, Nat.le_refl _⟩ (by omega) he hb hown hts hG hB hsz (jk_cod (by omega) h2 h23 hj ws) (by decide) jw_cod_c rfl jw_cod_i jw_cod_s jw_cod_l jp_cod hO hP hD hS ⟨rfl, rfl⟩ (by show (1 : Nat) ≤ 8; decide) ⟨Nat.le_refl _, Nat.le_refl _⟩ jd_len_6 ?_
    rintro v ws1 H1 locs1 k n ⟨rfl, rfl, rfl, rfl⟩ hP1 hD1 hS1
    show W p l e _ s m _ below meth c H1 locs1 0 0 _ (F0 m 9 ls [.int 0, .int (Int32.ofNat (ee_txb j).length)])
    refine lv_ishr he hb jd_len_9 ?_
    rw [jv_shr _ (ee_tx_len h2 h23).1]
    exact jt_z hC rfl rfl hP1 hD1 hS1 jd_len_10
theorem jk_preN {i n d : Nat} (hd : 1 ≤ d) (hi : i < n) (hn : n < 64) (ws0 : va_W) : jt l D dA xa xt B d jn_pre prog_24_method_11_code 3 (some .int) (fun vs ws => vs = [.int (Int32.ofNat i), .int (Int32.ofNat n), .null] ∧ ws = ws0) (jq (Int32.ofNat i) ws0) := by
  refine jt_of (by decide +kernel) ?_ ?_
  · rintro vs ws ⟨rfl, rfl⟩
    exact Nat.le_refl _
  · rintro p e s m vs below meth c ws ls hC ⟨rfl, rfl⟩ hP hD hS hl
    obtain ⟨he, hb, hml, hown, hts, hG, hB, hlk, hrt⟩ := id hC
    have hl0 : ls[0]? = some (.val (.int (Int32.ofNat i))) := lv_at hl 0 rfl
    have hl1 : ls[1]? = some (.val (.int (Int32.ofNat n))) := lv_at hl 1 rfl
    refine lv_iload_n he hb jd_pre_0 rfl hl0 ?_
    refine lv_if_lt he hb jd_pre_1 (tgt := 9) (by decide) (fun h9 => absurd h9 (jv_num i (by omega)).1) (fun _ => ?_)
    refine lv_iload_n he hb jd_pre_4 rfl hl0 ?_
    refine lv_iload_n he hb jd_pre_5 rfl hl1 ?_
    refine lv_icmp_lt he hb jd_pre_6 (tgt := 16) (by decide) (fun _ => ?_) (fun h9 => absurd (jv_lt (by omega) hn hi) h9)
    refine lv_iload_n he hb jd_pre_16 rfl hl0 ?_
    exact jt_z hC rfl rfl hP hD hS jd_pre_17
theorem jk_preR {i n d : Nat} (hd : 1 ≤ d) (hi : i < n) (hn : n < 64) (vf : Nat) (ws0 : va_W) : jt l D dA xa xt B d jn_pre prog_24_method_11_code 3 (some .int) (fun vs ws => vs = [.int (Int32.ofNat i), .int (Int32.ofNat n), .ref vf] ∧ ws = ws0) (jq (Int32.ofNat i) ws0) := by
  refine jt_of (by decide +kernel) ?_ ?_
  · rintro vs ws ⟨rfl, rfl⟩
    exact Nat.le_refl _
  · rintro p e s m vs below meth c ws ls hC ⟨rfl, rfl⟩ hP hD hS hl
    obtain ⟨he, hb, hml, hown, hts, hG, hB, hlk, hrt⟩ := id hC
    have hl0 : ls[0]? = some (.val (.int (Int32.ofNat i))) := lv_at hl 0 rfl
    have hl1 : ls[1]? = some (.val (.int (Int32.ofNat n))) := lv_at hl 1 rfl
    refine lv_iload_n he hb jd_pre_0 rfl hl0 ?_
    refine lv_if_lt he hb jd_pre_1 (tgt := 9) (by decide) (fun h9 => absurd h9 (jv_num i (by omega)).1) (fun _ => ?_)
    refine lv_iload_n he hb jd_pre_4 rfl hl0 ?_
    refine lv_iload_n he hb jd_pre_5 rfl hl1 ?_
    refine lv_icmp_lt he hb jd_pre_6 (tgt := 16) (by decide) (fun _ => ?_) (fun h9 => absurd (jv_lt (by omega) hn hi) h9)
    refine lv_iload_n he hb jd_pre_16 rfl hl0 ?_
    exact jt_z hC rfl rfl hP hD hS jd_pre_17
theorem jk_pre {i n d : Nat} (hd : 1 ≤ d) (hi : i < n) (hn : n < 64) {vf : Value} (hvf : vf = .null ∨ ∃ z, vf = .ref z) (ws0 : va_W) : jt l D dA xa xt B d jn_pre prog_24_method_11_code 3 (some .int) (fun vs ws => vs = [.int (Int32.ofNat i), .int (Int32.ofNat n), vf] ∧ ws = ws0) (jq (Int32.ofNat i) ws0) := by
  rcases hvf with rfl | ⟨z, rfl⟩
  · exact jk_preN hd hi hn ws0
  · exact jk_preR hd hi hn z ws0
theorem jk_chk {i n d j a : Nat} (hd : 2 ≤ d) (h2 : 2 ≤ j) (h23 : j < 23) (hj : xa[j]? = some a) (hi : i < n) (hn : n < 64) (ws0 : va_W) : jt l D dA xa xt B d jn_chk prog_19_method_155_code 2 none (fun vs ws => vs = [.int (Int32.ofNat i), .int (Int32.ofNat n)] ∧ ws = ws0) (fun v ws k n => v = none ∧ ws = ws0 ∧ k = 0 ∧ n = 0) := by
  refine jt_of (by decide +kernel) ?_ ?_
  · rintro vs ws ⟨rfl, rfl⟩
    exact Nat.le_refl _
  · rintro p e s m vs below meth c ws ls hC ⟨rfl, rfl⟩ hP hD hS hl
    obtain ⟨he, hb, hml, hown, hts, hG, hB, hlk, hrt⟩ := id hC
    obtain ⟨-, -, -, -, vf, hZ, hvf⟩ := ee_tx_in hG h2 h23 hj
    have hsz : c.maxLocals = ls.size := hml.trans hl.1.symm
    refine lv_iload_n he hb jd_chk_0 rfl (lv_at hl 0 rfl) ?_
    refine lv_iload_n he hb jd_chk_1 rfl (lv_at hl 1 rfl) ?_
    refine va_gets he hb hZ hS hown (hts _ jw_sf_f) (fun x h9 => h9) jd_chk_2 ?_
    refine jt_S (d := d) (vAs := [.int (Int32.ofNat i), .int (Int32.ofNat n), vf]) (vr := []) ⟨Nat.le_refl _, Nat.le_refl _⟩ (by omega) he hb hown hts hG hB hsz (jk_pre (by omega) hi hn hvf ws) (by decide) jw_pr_c jw_iP jw_pr_st jw_pr_l ⟨by decide +kernel, by decide +kernel⟩ jp_pre hP hD hS ⟨rfl, rfl⟩ (by decide) ⟨Nat.le_refl _, Nat.le_refl _⟩ jd_chk_5 ?_
    rintro v ws1 H1 locs1 k n ⟨rfl, rfl, rfl, rfl⟩ hP1 hD1 hS1
    show W p l e _ s m _ below meth c H1 locs1 0 0 _ (F0 m 8 ls [.int (Int32.ofNat i)])
    refine lv_pop he hb jd_chk_8 rfl ?_
    exact mq_mono (Q1 := fun ar st o t => ct_Post D B (fun v ws k n => v = none ∧ ws = ws1 ∧ k = 0 ∧ n = 0) ar st o t 0 0) (fun _ _ h => h) (W.vret he hb hrt (fun t ht hW => ⟨⟨none, ws1, rfl, ⟨rfl, rfl, rfl, rfl⟩, by rw [ht]; exact hP1, hD1⟩, hS1.F ht⟩) hS1.2.2 jd_chk_9 hlk)
theorem jk_lch {i d j a b : Nat} (hd : 3 ≤ d) (h2 : 2 ≤ j) (h23 : j < 23) (hj : xa[j]? = some a) (hbj : xa[j + 21]? = some b) (hi : i < (ee_txb j).length) (ws0 : va_W) : jt l D dA xa xt B d jn_lch prog_20_method_2_code 2 (some .char) (fun vs ws => vs = [.ref b, .int (Int32.ofNat i)] ∧ ws = ws0) (jq (Int32.ofNat ((ee_txb j).getD i 0)) ws0) := by
  refine jt_of (by decide +kernel) ?_ ?_
  · rintro vs ws ⟨rfl, rfl⟩
    exact Nat.le_refl _
  · rintro p e s m vs below meth c ws ls hC ⟨rfl, rfl⟩ hP hD hS hl
    obtain ⟨he, hb, hml, hown, hts, hG, hB, hlk, hrt⟩ := id hC
    obtain ⟨b9, hb9, ⟨hO, hc, hv, hT⟩, hZ, -⟩ := ee_tx_in hG h2 h23 hj
    rw [hbj] at hb9
    cases hb9
    have hln := ee_tx_len h2 h23
    have hnum := jv_num i (Nat.lt_trans hi hln.1)
    have hsz : c.maxLocals = ls.size := hml.trans hl.1.symm
    have hl0 : ls[0]? = some (.val (.ref b)) := lv_at hl 0 rfl
    have hl1 : ls[1]? = some (.val (.int (Int32.ofNat i))) := lv_at hl 1 rfl
    obtain ⟨cell, t1, t2, t3, t4, t5, t6, t7⟩ := hT.kept hS.2.1
    refine lv_iload_n he hb jd_lch_0 rfl hl1 ?_
    refine lv_aload_n he hb jd_lch_1 rfl hl0 ?_
    refine W.alen he hb t1 t2 t5 (g := F0 m 2 ls [.ref b, .int (Int32.ofNat i)]) rfl (rest := [.int (Int32.ofNat i)]) rfl jd_lch_2 ?_
    show W p l e _ s m _ below meth c s.heap [] 0 0 _ (F0 m 3 ls [.int (Int32.ofNat (ee_txb j).length), .int (Int32.ofNat i)])
    refine jt_S (d := d) (vAs := [.int (Int32.ofNat i), .int (Int32.ofNat (ee_txb j).length)]) (vr := []) ⟨Nat.le_refl _, Nat.le_refl _⟩ (by omega) he hb hown hts hG hB hsz (jk_chk (by omega) h2 h23 hj hi hln.1 ws) (by decide) jw_ck_c jw_iS jw_ck_st jw_ck_l ⟨by decide +kernel, by decide +kernel⟩ jp_chk hP hD hS ⟨rfl, rfl⟩ (by decide) ⟨Nat.le_refl _, Nat.le_refl _⟩ jd_lch_3 ?_
    rintro v ws1 H1 locs1 k n ⟨rfl, rfl, rfl, rfl⟩ hP1 hD1 hS1
    obtain ⟨cell1, u1, u2, u3, u4, u5, u6, u7⟩ := hT.kept hS1.2.1
    show W p l e _ s m _ below meth c H1 locs1 0 0 _ (F0 m 6 ls [])
    refine lv_aload_n he hb jd_lch_6 rfl hl0 ?_
    refine lv_iload_n he hb jd_lch_7 rfl hl1 ?_
    refine W.bald he hb (v := .int (Int32.ofNat ((ee_txb j).getD i 0))) u1 u2 u3 (by rw [hnum.2.1]; exact fun h9 => h9.elim hnum.1 (fun h8 => by omega)) (by rw [hnum.2.1]; exact u6 i hi) (g := F0 m 8 ls [.int (Int32.ofNat i), .ref b]) rfl (rest := []) rfl jd_lch_8 ?_
    show W p l e _ s m _ below meth c H1 locs1 0 0 _ (F0 m 9 ls [.int (Int32.ofNat ((ee_txb j).getD i 0))])
    refine lv_sipush he hb jd_lch_9 (v := 255) (by decide) ?_
    refine lv_iand he hb jd_lch_12 ?_
    refine lv_i2c he hb jd_lch_13 (jv_chr _ (hln.2 i hi)).1 ?_
    exact jt_z hC rfl (jv_chr _ (hln.2 i hi)).2 hP1 hD1 hS1 jd_lch_14
theorem jk_chr {i d j a : Nat} (hd : 4 ≤ d) (h2 : 2 ≤ j) (h23 : j < 23) (hj : xa[j]? = some a) (hi : i < (ee_txb j).length) (ws0 : va_W) : jt l D dA xa xt B d jn_chr prog_19_method_56_code 2 (some .char) (fun vs ws => vs = [.ref a, .int (Int32.ofNat i)] ∧ ws = ws0) (jq (Int32.ofNat ((ee_txb j).getD i 0)) ws0) := by
  refine jt_of (by decide +kernel) ?_ ?_
  · rintro vs ws ⟨rfl, rfl⟩
    exact Nat.le_refl _
  · rintro p e s m vs below meth c ws ls hC ⟨rfl, rfl⟩ hP hD hS hl
    obtain ⟨he, hb, hml, hown, hts, hG, hB, hlk, hrt⟩ := id hC
    obtain ⟨b, hb9, ⟨hO, hc, hv, hT⟩, hZ, -⟩ := ee_tx_in hG h2 h23 hj
    have hln := ee_tx_len h2 h23
    have hsz : c.maxLocals = ls.size := hml.trans hl.1.symm
    have hl0 : ls[0]? = some (.val (.ref a)) := lv_at hl 0 rfl
    have hl1 : ls[1]? = some (.val (.int (Int32.ofNat i))) := lv_at hl 1 rfl
    refine lv_aload_n he hb jd_chr_0 rfl hl0 ?_
    refine jt_V (d := d) (vAs := []) (vr := []) ⟨Nat.le_refl _, Nat.le_refl _⟩ (by omega) he hb hown hts hG hB hsz (jk_lat (by omega) h2 h23 hj ws) (by decide) jw_la_c rfl jw_la_i jw_la_s jw_la_l jp_lat hO hP hD hS ⟨rfl, rfl⟩ (by decide) ⟨Nat.le_refl _, Nat.le_refl _⟩ jd_chr_1 ?_
    rintro v ws1 H1 locs1 k n ⟨rfl, rfl, rfl, rfl⟩ hP1 hD1 hS1
    show W p l e _ s m _ below meth c H1 locs1 0 0 _ (F0 m 4 ls [.int 1])
    refine lv_if_eq he hb jd_chr_4 (tgt := 16) (by decide) (fun h9 => absurd h9 (by decide)) (fun _ => ?_)
    refine lv_aload_n he hb jd_chr_7 rfl hl0 ?_
    refine vk_getf he hb hv hS1 hown (hts _ jw_val_f) (fun x h9 => h9) jd_chr_8 ?_
    refine lv_iload_n he hb jd_chr_11 rfl hl1 ?_
    refine jt_S (d := d) (vAs := [.ref b, .int (Int32.ofNat i)]) (vr := []) ⟨Nat.le_refl _, Nat.le_refl _⟩ (by omega) he hb hown hts hG hB hsz (jk_lch (by omega) h2 h23 hj hb9 hi ws1) (by decide) jw_lc_c jw_iL jw_lc_st jw_lc_l ⟨by decide +kernel, by decide +kernel⟩ jp_lch hP1 hD1 hS1 ⟨rfl, rfl⟩ (by decide) ⟨Nat.le_refl _, Nat.le_refl _⟩ jd_chr_12 ?_
    rintro v ws2 H2 locs2 k n ⟨rfl, rfl, rfl, rfl⟩ hP2 hD2 hS2
    show W p l e _ s m _ below meth c H2 locs2 0 0 _ (F0 m 15 ls [.int (Int32.ofNat ((ee_txb j).getD i 0))])
    exact jt_z hC rfl (jv_chr _ (hln.2 i hi)).2 hP2 hD2 hS2 jd_chr_15
end JT
