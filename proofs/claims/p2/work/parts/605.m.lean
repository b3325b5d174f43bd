/-! ===== methods, by program ===== -/
/- StoreBufferHeap.about -/
def kk_33_0 : ab_K := ((nat_lit 33, nat_lit 8), (nat_lit 0, nat_lit 0), ([.inr (.inl (nat_lit 1)), .inl (nat_lit 0, .ofNat (nat_lit 1), .ofNat (nat_lit 0)), .inl (nat_lit 1, .ofNat (nat_lit 1), .ofNat (nat_lit 0))], ([(.negSucc (nat_lit 2147483647), .ofNat (nat_lit 2147483647)), (.negSucc (nat_lit 2147483647), .ofNat (nat_lit 2147483647))], [], [nat_lit 0], [], [])), [(some (.inl (nat_lit 2, .ofNat (nat_lit 1), .ofNat (nat_lit 0))), ([(.negSucc (nat_lit 2147483647), .ofNat (nat_lit 2147483647)), (.negSucc (nat_lit 2147483647), .ofNat (nat_lit 2147483647)), (.negSucc (nat_lit 2147483647), .ofNat (nat_lit 2147483647))], [], [nat_lit 0], [], []), nat_lit 0, nat_lit 0)], nat_lit 18446708889337854400, nat_lit 7900)
def kk_33_0_T : List (ab_S × ab_Rk) := []
def kk_33_0_s (pc : Nat) : Bool := bif Nat.blt pc (nat_lit 133) then (bif Nat.blt pc (nat_lit 75) then (bif Nat.beq pc (nat_lit 9) then true else false) else (bif Nat.blt pc (nat_lit 102) then (bif Nat.beq pc (nat_lit 75) then true else false) else (bif Nat.beq pc (nat_lit 102) then true else false))) else (bif Nat.blt pc (nat_lit 167) then (bif Nat.blt pc (nat_lit 154) then (bif Nat.beq pc (nat_lit 133) then true else false) else (bif Nat.beq pc (nat_lit 154) then true else false)) else (bif Nat.blt pc (nat_lit 169) then (bif Nat.beq pc (nat_lit 167) then true else false) else (bif Nat.beq pc (nat_lit 169) then true else false)))
def kk_33_0_h (pc : Nat) : List ab_Hn := []
def kk_33_0_k (pc : Nat) : Nat := nat_lit 0
theorem kk_33_0_e : ab_rn0 ab_cls kk_33_0.2.1.1 kk_33_0.2.1.2 kk_33_0.2.2.2.2.1 kk_33_0.2.2.2.2.2 [kk_76_0, kk_98_0, kk_103_0, kk_104_0, kk_105_0] kk_33_0_k kk_33_0_h kk_33_0.1.1 kk_33_0_s (ab_fin kk_33_0.2.2.1.2.1.length kk_33_0.2.2.1.2.2.2.1.length kk_33_0.1.1 kk_33_0.2.2.2.1 none kk_33_0_T) (nat_lit 770) (ab_ent kk_33_0) = true := by decide +kernel
theorem kk_33_0_r : (kk_33_0_T.all fun T => ab_rn0 ab_cls kk_33_0.2.1.1 kk_33_0.2.1.2 kk_33_0.2.2.2.2.1 kk_33_0.2.2.2.2.2 [kk_76_0, kk_98_0, kk_103_0, kk_104_0, kk_105_0] kk_33_0_k kk_33_0_h kk_33_0.1.1 kk_33_0_s (ab_fin kk_33_0.2.2.1.2.1.length kk_33_0.2.2.1.2.2.2.1.length kk_33_0.1.1 kk_33_0.2.2.2.1 (some T.2) kk_33_0_T) (nat_lit 770) T.1) = true := by decide +kernel
theorem kk_33_0_c {l : Launch} {D : va_G} {dA : Nat → ClassId} {xa : List Nat} {xt : ee_X} {B : Nat} (hxt : xt[1]? = some (some ab_rnd)) : ∀ K' ∈ ([kk_76_0, kk_98_0, kk_103_0, kk_104_0, kk_105_0] : List ab_K), ab_CT ab_cls l D dA xa xt B K' ∧ K'.1.2 < kk_33_0.1.2 := by
  intro K' h'
  simp only [List.mem_cons, List.not_mem_nil, or_false] at h'
  rcases h' with rfl | rfl | rfl | rfl | rfl
  · exact ⟨kk_76_0_t hxt, by decide +kernel⟩
  · exact ⟨kk_98_0_t hxt, by decide +kernel⟩
  · exact ⟨kk_103_0_t hxt, by decide +kernel⟩
  · exact ⟨kk_104_0_t hxt, by decide +kernel⟩
  · exact ⟨kk_105_0_t hxt, by decide +kernel⟩
theorem kk_33_0_t {l : Launch} {D : va_G} {dA : Nat → ClassId} {xa : List Nat} {xt : ee_X} {B : Nat} (hxt : xt[1]? = some (some ab_rnd)) : ab_CT ab_cls l D dA xa xt B kk_33_0 := ab_meth (Ks := [kk_76_0, kk_98_0, kk_103_0, kk_104_0, kk_105_0]) (hk := kk_33_0_k) (ht := kk_33_0_h) (stop := kk_33_0_s) (Ts := kk_33_0_T) (n := nat_lit 770) hxt ab_hnc ab_hcok ab_hcok2 (by decide +kernel) (kk_33_0_c hxt) (by decide +kernel) kk_33_0_e (List.all_eq_true.mp kk_33_0_r)
/- StoreBufferHeap.worst -/
def kk_47_0 : ab_K := ((nat_lit 47, nat_lit 8), (nat_lit 0, nat_lit 0), ([.inr (.inl (nat_lit 1)), .inl (nat_lit 0, .ofNat (nat_lit 1), .ofNat (nat_lit 0)), .inl (nat_lit 1, .ofNat (nat_lit 1), .ofNat (nat_lit 0))], ([(.negSucc (nat_lit 2147483647), .ofNat (nat_lit 2147483647)), (.negSucc (nat_lit 2147483647), .ofNat (nat_lit 2147483647))], [], [nat_lit 0], [], [])), [(some (.inl (nat_lit 2, .ofNat (nat_lit 1), .ofNat (nat_lit 0))), ([(.negSucc (nat_lit 2147483647), .ofNat (nat_lit 2147483647)), (.negSucc (nat_lit 2147483647), .ofNat (nat_lit 2147483647)), (.negSucc (nat_lit 2147483647), .ofNat (nat_lit 2147483647))], [], [nat_lit 0], [], []), nat_lit 0, nat_lit 0)], nat_lit 18446708889344670144, nat_lit 7900)
def kk_47_0_T : List (ab_S × ab_Rk) := []
def kk_47_0_s (pc : Nat) : Bool := bif Nat.blt pc (nat_lit 57) then (bif Nat.beq pc (nat_lit 19) then true else false) else (bif Nat.beq pc (nat_lit 57) then true else false)
def kk_47_0_h (pc : Nat) : List ab_Hn := []
def kk_47_0_k (pc : Nat) : Nat := nat_lit 0
theorem kk_47_0_e : ab_rn0 ab_cls kk_47_0.2.1.1 kk_47_0.2.1.2 kk_47_0.2.2.2.2.1 kk_47_0.2.2.2.2.2 [kk_69_0, kk_119_0] kk_47_0_k kk_47_0_h kk_47_0.1.1 kk_47_0_s (ab_fin kk_47_0.2.2.1.2.1.length kk_47_0.2.2.1.2.2.2.1.length kk_47_0.1.1 kk_47_0.2.2.2.1 none kk_47_0_T) (nat_lit 420) (ab_ent kk_47_0) = true := by decide +kernel
theorem kk_47_0_r : (kk_47_0_T.all fun T => ab_rn0 ab_cls kk_47_0.2.1.1 kk_47_0.2.1.2 kk_47_0.2.2.2.2.1 kk_47_0.2.2.2.2.2 [kk_69_0, kk_119_0] kk_47_0_k kk_47_0_h kk_47_0.1.1 kk_47_0_s (ab_fin kk_47_0.2.2.1.2.1.length kk_47_0.2.2.1.2.2.2.1.length kk_47_0.1.1 kk_47_0.2.2.2.1 (some T.2) kk_47_0_T) (nat_lit 420) T.1) = true := by decide +kernel
theorem kk_47_0_c {l : Launch} {D : va_G} {dA : Nat → ClassId} {xa : List Nat} {xt : ee_X} {B : Nat} (hxt : xt[1]? = some (some ab_rnd)) : ∀ K' ∈ ([kk_69_0, kk_119_0] : List ab_K), ab_CT ab_cls l D dA xa xt B K' ∧ K'.1.2 < kk_47_0.1.2 := by
  intro K' h'
  simp only [List.mem_cons, List.not_mem_nil, or_false] at h'
  rcases h' with rfl | rfl
  · exact ⟨kk_69_0_t hxt, by decide +kernel⟩
  · exact ⟨kk_119_0_t hxt, by decide +kernel⟩
theorem kk_47_0_t {l : Launch} {D : va_G} {dA : Nat → ClassId} {xa : List Nat} {xt : ee_X} {B : Nat} (hxt : xt[1]? = some (some ab_rnd)) : ab_CT ab_cls l D dA xa xt B kk_47_0 := ab_meth (Ks := [kk_69_0, kk_119_0]) (hk := kk_47_0_k) (ht := kk_47_0_h) (stop := kk_47_0_s) (Ts := kk_47_0_T) (n := nat_lit 420) hxt ab_hnc ab_hcok ab_hcok2 (by decide +kernel) (kk_47_0_c hxt) (by decide +kernel) kk_47_0_e (List.all_eq_true.mp kk_47_0_r)
