/-! ===== methods, by program ===== -/
/- StoreBufferHeap.fair -/
def kk_19_0 : ab_K := ((nat_lit 19, nat_lit 8), (nat_lit 0, nat_lit 0), ([.inr (.inl (nat_lit 1)), .inl (nat_lit 0, .ofNat (nat_lit 1), .ofNat (nat_lit 0))], ([(.negSucc (nat_lit 2147483647), .ofNat (nat_lit 2147483647))], [], [nat_lit 0], [], [])), [(some (.inl (nat_lit 1, .ofNat (nat_lit 1), .ofNat (nat_lit 0))), ([(.negSucc (nat_lit 2147483647), .ofNat (nat_lit 2147483647)), (.negSucc (nat_lit 2147483647), .ofNat (nat_lit 2147483647))], [], [nat_lit 0], [], []), nat_lit 0, nat_lit 0)], nat_lit 18446708889338378688, nat_lit 7900)
def kk_19_0_T : List (ab_S × ab_Rk) := [((nat_lit 17, [.inr (.inl (nat_lit 1)), .inl (nat_lit 0, .ofNat (nat_lit 1), .ofNat (nat_lit 0)), .inl (nat_lit 1, .ofNat (nat_lit 1), .ofNat (nat_lit 0)), .inl (nat_lit 2, .ofNat (nat_lit 1), .ofNat (nat_lit 0))], [], ([(.ofNat (nat_lit 0), .ofNat (nat_lit 200)), (.negSucc (nat_lit 2147483647), .ofNat (nat_lit 2147483647)), (.ofNat (nat_lit 0), .ofNat (nat_lit 200))], [(nat_lit 0, nat_lit 2, .ofNat (nat_lit 0))], [nat_lit 0], [], []), nat_lit 0, nat_lit 0), ((.negSucc (nat_lit 0), (nat_lit 2, .ofNat (nat_lit 1), .ofNat (nat_lit 0))), (.ofNat (nat_lit 1), (nat_lit 0, .ofNat (nat_lit 0), .ofNat (nat_lit 99))), (.ofNat (nat_lit 1), (nat_lit 0, .ofNat (nat_lit 0), .ofNat (nat_lit 0)))))]
def kk_19_0_s (pc : Nat) : Bool := bif Nat.blt pc (nat_lit 17) then (bif Nat.beq pc (nat_lit 12) then true else false) else (bif Nat.blt pc (nat_lit 51) then (bif Nat.beq pc (nat_lit 17) then true else false) else (bif Nat.beq pc (nat_lit 51) then true else false))
def kk_19_0_h (pc : Nat) : List ab_Hn := []
def kk_19_0_k (pc : Nat) : Nat := nat_lit 0
theorem kk_19_0_e : ab_rn0 ab_cls kk_19_0.2.1.1 kk_19_0.2.1.2 kk_19_0.2.2.2.2.1 kk_19_0.2.2.2.2.2 [kk_69_0, kk_71_0, kk_89_0] kk_19_0_k kk_19_0_h kk_19_0.1.1 kk_19_0_s (ab_fin kk_19_0.2.2.1.2.1.length kk_19_0.2.2.1.2.2.2.1.length kk_19_0.1.1 kk_19_0.2.2.2.1 none kk_19_0_T) (nat_lit 5170) (ab_ent kk_19_0) = true := by decide +kernel
theorem kk_19_0_r : (kk_19_0_T.all fun T => ab_rn0 ab_cls kk_19_0.2.1.1 kk_19_0.2.1.2 kk_19_0.2.2.2.2.1 kk_19_0.2.2.2.2.2 [kk_69_0, kk_71_0, kk_89_0] kk_19_0_k kk_19_0_h kk_19_0.1.1 kk_19_0_s (ab_fin kk_19_0.2.2.1.2.1.length kk_19_0.2.2.1.2.2.2.1.length kk_19_0.1.1 kk_19_0.2.2.2.1 (some T.2) kk_19_0_T) (nat_lit 5170) T.1) = true := by decide +kernel
theorem kk_19_0_c {l : Launch} {D : va_G} {dA : Nat → ClassId} {xa : List Nat} {xt : ee_X} {B : Nat} (hxt : xt[1]? = some (some ab_rnd)) : ∀ K' ∈ ([kk_69_0, kk_71_0, kk_89_0] : List ab_K), ab_CT ab_cls l D dA xa xt B K' ∧ K'.1.2 < kk_19_0.1.2 := by
  intro K' h'
  simp only [List.mem_cons, List.not_mem_nil, or_false] at h'
  rcases h' with rfl | rfl | rfl
  · exact ⟨kk_69_0_t hxt, by decide +kernel⟩
  · exact ⟨kk_71_0_t hxt, by decide +kernel⟩
  · exact ⟨kk_89_0_t hxt, by decide +kernel⟩
theorem kk_19_0_t {l : Launch} {D : va_G} {dA : Nat → ClassId} {xa : List Nat} {xt : ee_X} {B : Nat} (hxt : xt[1]? = some (some ab_rnd)) : ab_CT ab_cls l D dA xa xt B kk_19_0 := ab_meth (Ks := [kk_69_0, kk_71_0, kk_89_0]) (hk := kk_19_0_k) (ht := kk_19_0_h) (stop := kk_19_0_s) (Ts := kk_19_0_T) (n := nat_lit 5170) hxt ab_hnc ab_hcok ab_hcok2 (by decide +kernel) (kk_19_0_c hxt) (by decide +kernel) kk_19_0_e (List.all_eq_true.mp kk_19_0_r)
/- StoreBufferHeap.told -/
def kk_91_0 : ab_K := ((nat_lit 91, nat_lit 1), (nat_lit 0, nat_lit 0), ([.inl (nat_lit 0, .ofNat (nat_lit 1), .ofNat (nat_lit 0)), .inl (nat_lit 1, .ofNat (nat_lit 1), .ofNat (nat_lit 0))], ([(.negSucc (nat_lit 2147483647), .ofNat (nat_lit 2147483647)), (.ofNat (nat_lit 0), .ofNat (nat_lit 1))], [], [], [], [])), [(some (.inl (nat_lit 2, .ofNat (nat_lit 1), .ofNat (nat_lit 0))), ([(.negSucc (nat_lit 2147483647), .ofNat (nat_lit 2147483647)), (.ofNat (nat_lit 0), .ofNat (nat_lit 1)), (.negSucc (nat_lit 1), .ofNat (nat_lit 268435455))], [], [], [], []), nat_lit 0, nat_lit 0)], nat_lit 18446708889337462784, nat_lit 7900)
def kk_91_0_T : List (ab_S × ab_Rk) := []
def kk_91_0_s (pc : Nat) : Bool := bif Nat.blt pc (nat_lit 21) then (bif Nat.beq pc (nat_lit 6) then true else false) else (bif Nat.beq pc (nat_lit 21) then true else false)
def kk_91_0_h (pc : Nat) : List ab_Hn := []
def kk_91_0_k (pc : Nat) : Nat := nat_lit 0
theorem kk_91_0_e : ab_rn0 ab_cls kk_91_0.2.1.1 kk_91_0.2.1.2 kk_91_0.2.2.2.2.1 kk_91_0.2.2.2.2.2 [] kk_91_0_k kk_91_0_h kk_91_0.1.1 kk_91_0_s (ab_fin kk_91_0.2.2.1.2.1.length kk_91_0.2.2.1.2.2.2.1.length kk_91_0.1.1 kk_91_0.2.2.2.1 none kk_91_0_T) (nat_lit 170) (ab_ent kk_91_0) = true := by decide +kernel
theorem kk_91_0_r : (kk_91_0_T.all fun T => ab_rn0 ab_cls kk_91_0.2.1.1 kk_91_0.2.1.2 kk_91_0.2.2.2.2.1 kk_91_0.2.2.2.2.2 [] kk_91_0_k kk_91_0_h kk_91_0.1.1 kk_91_0_s (ab_fin kk_91_0.2.2.1.2.1.length kk_91_0.2.2.1.2.2.2.1.length kk_91_0.1.1 kk_91_0.2.2.2.1 (some T.2) kk_91_0_T) (nat_lit 170) T.1) = true := by decide +kernel
theorem kk_91_0_t {l : Launch} {D : va_G} {dA : Nat → ClassId} {xa : List Nat} {xt : ee_X} {B : Nat} (hxt : xt[1]? = some (some ab_rnd)) : ab_CT ab_cls l D dA xa xt B kk_91_0 := ab_meth (Ks := []) (hk := kk_91_0_k) (ht := kk_91_0_h) (stop := kk_91_0_s) (Ts := kk_91_0_T) (n := nat_lit 170) hxt ab_hnc ab_hcok ab_hcok2 (by decide +kernel) (fun K' h' => by cases h') (by decide +kernel) kk_91_0_e (List.all_eq_true.mp kk_91_0_r)
/- StoreBufferHeap.toldOf -/
def kk_95_0 : ab_K := ((nat_lit 95, nat_lit 2), (nat_lit 0, nat_lit 0), ([.inl (nat_lit 0, .ofNat (nat_lit 1), .ofNat (nat_lit 0)), .inl (nat_lit 1, .ofNat (nat_lit 1), .ofNat (nat_lit 0))], ([(.negSucc (nat_lit 2147483647), .ofNat (nat_lit 2147483647)), (.negSucc (nat_lit 2147483647), .ofNat (nat_lit 2147483647))], [], [], [], [])), [(some (.inl (nat_lit 2, .ofNat (nat_lit 1), .ofNat (nat_lit 0))), ([(.negSucc (nat_lit 2147483647), .ofNat (nat_lit 2147483647)), (.negSucc (nat_lit 2147483647), .ofNat (nat_lit 2147483647)), (.negSucc (nat_lit 2147483647), .ofNat (nat_lit 2147483647))], [], [], [], []), nat_lit 0, nat_lit 0)], nat_lit 18446708889337462784, nat_lit 7900)
def kk_95_0_T : List (ab_S × ab_Rk) := []
def kk_95_0_s (pc : Nat) : Bool := bif Nat.beq pc (nat_lit 38) then true else false
def kk_95_0_h (pc : Nat) : List ab_Hn := []
def kk_95_0_k (pc : Nat) : Nat := nat_lit 0
theorem kk_95_0_e : ab_rn0 ab_cls kk_95_0.2.1.1 kk_95_0.2.1.2 kk_95_0.2.2.2.2.1 kk_95_0.2.2.2.2.2 [kk_91_0] kk_95_0_k kk_95_0_h kk_95_0.1.1 kk_95_0_s (ab_fin kk_95_0.2.2.1.2.1.length kk_95_0.2.2.1.2.2.2.1.length kk_95_0.1.1 kk_95_0.2.2.2.1 none kk_95_0_T) (nat_lit 410) (ab_ent kk_95_0) = true := by decide +kernel
theorem kk_95_0_r : (kk_95_0_T.all fun T => ab_rn0 ab_cls kk_95_0.2.1.1 kk_95_0.2.1.2 kk_95_0.2.2.2.2.1 kk_95_0.2.2.2.2.2 [kk_91_0] kk_95_0_k kk_95_0_h kk_95_0.1.1 kk_95_0_s (ab_fin kk_95_0.2.2.1.2.1.length kk_95_0.2.2.1.2.2.2.1.length kk_95_0.1.1 kk_95_0.2.2.2.1 (some T.2) kk_95_0_T) (nat_lit 410) T.1) = true := by decide +kernel
theorem kk_95_0_c {l : Launch} {D : va_G} {dA : Nat → ClassId} {xa : List Nat} {xt : ee_X} {B : Nat} (hxt : xt[1]? = some (some ab_rnd)) : ∀ K' ∈ ([kk_91_0] : List ab_K), ab_CT ab_cls l D dA xa xt B K' ∧ K'.1.2 < kk_95_0.1.2 := by
  intro K' h'
  simp only [List.mem_cons, List.not_mem_nil, or_false] at h'
  subst h'
  exact ⟨kk_91_0_t hxt, by decide +kernel⟩
theorem kk_95_0_t {l : Launch} {D : va_G} {dA : Nat → ClassId} {xa : List Nat} {xt : ee_X} {B : Nat} (hxt : xt[1]? = some (some ab_rnd)) : ab_CT ab_cls l D dA xa xt B kk_95_0 := ab_meth (Ks := [kk_91_0]) (hk := kk_95_0_k) (ht := kk_95_0_h) (stop := kk_95_0_s) (Ts := kk_95_0_T) (n := nat_lit 410) hxt ab_hnc ab_hcok ab_hcok2 (by decide +kernel) (kk_95_0_c hxt) (by decide +kernel) kk_95_0_e (List.all_eq_true.mp kk_95_0_r)
/- StoreBufferHeap.root -/
def kk_21_0 : ab_K := ((nat_lit 21, nat_lit 3), (nat_lit 0, nat_lit 0), ([.inr (.inl (nat_lit 1)), .inl (nat_lit 0, .ofNat (nat_lit 1), .ofNat (nat_lit 0)), .inl (nat_lit 1, .ofNat (nat_lit 1), .ofNat (nat_lit 0)), .inl (nat_lit 2, .ofNat (nat_lit 1), .ofNat (nat_lit 0))], ([(.negSucc (nat_lit 2147483647), .ofNat (nat_lit 2147483647)), (.negSucc (nat_lit 2147483647), .ofNat (nat_lit 2147483647)), (.ofNat (nat_lit 0), .ofNat (nat_lit 1))], [], [nat_lit 0], [], [])), [(some (.inl (nat_lit 3, .ofNat (nat_lit 1), .ofNat (nat_lit 0))), ([(.negSucc (nat_lit 2147483647), .ofNat (nat_lit 2147483647)), (.negSucc (nat_lit 2147483647), .ofNat (nat_lit 2147483647)), (.ofNat (nat_lit 0), .ofNat (nat_lit 1)), (.negSucc (nat_lit 1), .ofNat (nat_lit 268435455))], [], [nat_lit 0], [], []), nat_lit 0, nat_lit 0)], nat_lit 18446708889337462784, nat_lit 7900)
def kk_21_0_T : List (ab_S × ab_Rk) := []
def kk_21_0_s (pc : Nat) : Bool := bif Nat.blt pc (nat_lit 39) then (bif Nat.beq pc (nat_lit 18) then true else false) else (bif Nat.beq pc (nat_lit 39) then true else false)
def kk_21_0_h (pc : Nat) : List ab_Hn := []
def kk_21_0_k (pc : Nat) : Nat := nat_lit 0
theorem kk_21_0_e : ab_rn0 ab_cls kk_21_0.2.1.1 kk_21_0.2.1.2 kk_21_0.2.2.2.2.1 kk_21_0.2.2.2.2.2 [kk_69_0, kk_75_0, kk_91_0] kk_21_0_k kk_21_0_h kk_21_0.1.1 kk_21_0_s (ab_fin kk_21_0.2.2.1.2.1.length kk_21_0.2.2.1.2.2.2.1.length kk_21_0.1.1 kk_21_0.2.2.2.1 none kk_21_0_T) (nat_lit 340) (ab_ent kk_21_0) = true := by decide +kernel
theorem kk_21_0_r : (kk_21_0_T.all fun T => ab_rn0 ab_cls kk_21_0.2.1.1 kk_21_0.2.1.2 kk_21_0.2.2.2.2.1 kk_21_0.2.2.2.2.2 [kk_69_0, kk_75_0, kk_91_0] kk_21_0_k kk_21_0_h kk_21_0.1.1 kk_21_0_s (ab_fin kk_21_0.2.2.1.2.1.length kk_21_0.2.2.1.2.2.2.1.length kk_21_0.1.1 kk_21_0.2.2.2.1 (some T.2) kk_21_0_T) (nat_lit 340) T.1) = true := by decide +kernel
theorem kk_21_0_c {l : Launch} {D : va_G} {dA : Nat → ClassId} {xa : List Nat} {xt : ee_X} {B : Nat} (hxt : xt[1]? = some (some ab_rnd)) : ∀ K' ∈ ([kk_69_0, kk_75_0, kk_91_0] : List ab_K), ab_CT ab_cls l D dA xa xt B K' ∧ K'.1.2 < kk_21_0.1.2 := by
  intro K' h'
  simp only [List.mem_cons, List.not_mem_nil, or_false] at h'
  rcases h' with rfl | rfl | rfl
  · exact ⟨kk_69_0_t hxt, by decide +kernel⟩
  · exact ⟨kk_75_0_t hxt, by decide +kernel⟩
  · exact ⟨kk_91_0_t hxt, by decide +kernel⟩
theorem kk_21_0_t {l : Launch} {D : va_G} {dA : Nat → ClassId} {xa : List Nat} {xt : ee_X} {B : Nat} (hxt : xt[1]? = some (some ab_rnd)) : ab_CT ab_cls l D dA xa xt B kk_21_0 := ab_meth (Ks := [kk_69_0, kk_75_0, kk_91_0]) (hk := kk_21_0_k) (ht := kk_21_0_h) (stop := kk_21_0_s) (Ts := kk_21_0_T) (n := nat_lit 340) hxt ab_hnc ab_hcok ab_hcok2 (by decide +kernel) (kk_21_0_c hxt) (by decide +kernel) kk_21_0_e (List.all_eq_true.mp kk_21_0_r)
/- StoreBufferHeap.cellOf -/
def kk_94_0 : ab_K := ((nat_lit 94, nat_lit 3), (nat_lit 0, nat_lit 0), ([.inr (.inl (nat_lit 1)), .inl (nat_lit 0, .ofNat (nat_lit 1), .ofNat (nat_lit 0)), .inl (nat_lit 1, .ofNat (nat_lit 1), .ofNat (nat_lit 0)), .inl (nat_lit 2, .ofNat (nat_lit 1), .ofNat (nat_lit 0))], ([(.negSucc (nat_lit 2147483647), .ofNat (nat_lit 2147483647)), (.negSucc (nat_lit 2147483647), .ofNat (nat_lit 2147483647)), (.negSucc (nat_lit 2147483647), .ofNat (nat_lit 2147483647))], [], [nat_lit 0], [], [])), [(some (.inl (nat_lit 3, .ofNat (nat_lit 1), .ofNat (nat_lit 0))), ([(.negSucc (nat_lit 2147483647), .ofNat (nat_lit 2147483647)), (.negSucc (nat_lit 2147483647), .ofNat (nat_lit 2147483647)), (.negSucc (nat_lit 2147483647), .ofNat (nat_lit 2147483647)), (.negSucc (nat_lit 0), .ofNat (nat_lit 34))], [], [nat_lit 0], [], []), nat_lit 0, nat_lit 0)], nat_lit 18446708889337462784, nat_lit 7900)
def kk_94_0_T : List (ab_S × ab_Rk) := []
def kk_94_0_s (pc : Nat) : Bool := bif Nat.blt pc (nat_lit 43) then (bif Nat.blt pc (nat_lit 34) then (bif Nat.beq pc (nat_lit 15) then true else false) else (bif Nat.beq pc (nat_lit 34) then true else false)) else (bif Nat.blt pc (nat_lit 70) then (bif Nat.beq pc (nat_lit 43) then true else false) else (bif Nat.beq pc (nat_lit 70) then true else false))
def kk_94_0_h (pc : Nat) : List ab_Hn := []
def kk_94_0_k (pc : Nat) : Nat := nat_lit 0
theorem kk_94_0_e : ab_rn0 ab_cls kk_94_0.2.1.1 kk_94_0.2.1.2 kk_94_0.2.2.2.2.1 kk_94_0.2.2.2.2.2 [kk_69_0, kk_108_0] kk_94_0_k kk_94_0_h kk_94_0.1.1 kk_94_0_s (ab_fin kk_94_0.2.2.1.2.1.length kk_94_0.2.2.1.2.2.2.1.length kk_94_0.1.1 kk_94_0.2.2.2.1 none kk_94_0_T) (nat_lit 620) (ab_ent kk_94_0) = true := by decide +kernel
theorem kk_94_0_r : (kk_94_0_T.all fun T => ab_rn0 ab_cls kk_94_0.2.1.1 kk_94_0.2.1.2 kk_94_0.2.2.2.2.1 kk_94_0.2.2.2.2.2 [kk_69_0, kk_108_0] kk_94_0_k kk_94_0_h kk_94_0.1.1 kk_94_0_s (ab_fin kk_94_0.2.2.1.2.1.length kk_94_0.2.2.1.2.2.2.1.length kk_94_0.1.1 kk_94_0.2.2.2.1 (some T.2) kk_94_0_T) (nat_lit 620) T.1) = true := by decide +kernel
theorem kk_94_0_c {l : Launch} {D : va_G} {dA : Nat → ClassId} {xa : List Nat} {xt : ee_X} {B : Nat} (hxt : xt[1]? = some (some ab_rnd)) : ∀ K' ∈ ([kk_69_0, kk_108_0] : List ab_K), ab_CT ab_cls l D dA xa xt B K' ∧ K'.1.2 < kk_94_0.1.2 := by
  intro K' h'
  simp only [List.mem_cons, List.not_mem_nil, or_false] at h'
  rcases h' with rfl | rfl
  · exact ⟨kk_69_0_t hxt, by decide +kernel⟩
  · exact ⟨kk_108_0_t hxt, by decide +kernel⟩
theorem kk_94_0_t {l : Launch} {D : va_G} {dA : Nat → ClassId} {xa : List Nat} {xt : ee_X} {B : Nat} (hxt : xt[1]? = some (some ab_rnd)) : ab_CT ab_cls l D dA xa xt B kk_94_0 := ab_meth (Ks := [kk_69_0, kk_108_0]) (hk := kk_94_0_k) (ht := kk_94_0_h) (stop := kk_94_0_s) (Ts := kk_94_0_T) (n := nat_lit 620) hxt ab_hnc ab_hcok ab_hcok2 (by decide +kernel) (kk_94_0_c hxt) (by decide +kernel) kk_94_0_e (List.all_eq_true.mp kk_94_0_r)
/- StoreBufferHeap.cell -/
def kk_23_0 : ab_K := ((nat_lit 23, nat_lit 4), (nat_lit 0, nat_lit 0), ([.inr (.inl (nat_lit 1)), .inl (nat_lit 0, .ofNat (nat_lit 1), .ofNat (nat_lit 0)), .inl (nat_lit 1, .ofNat (nat_lit 1), .ofNat (nat_lit 0)), .inl (nat_lit 2, .ofNat (nat_lit 1), .ofNat (nat_lit 0))], ([(.negSucc (nat_lit 2147483647), .ofNat (nat_lit 2147483647)), (.negSucc (nat_lit 2147483647), .ofNat (nat_lit 2147483647)), (.negSucc (nat_lit 2147483647), .ofNat (nat_lit 2147483647))], [], [nat_lit 0], [], [])), [(some (.inl (nat_lit 3, .ofNat (nat_lit 1), .ofNat (nat_lit 0))), ([(.negSucc (nat_lit 2147483647), .ofNat (nat_lit 2147483647)), (.negSucc (nat_lit 2147483647), .ofNat (nat_lit 2147483647)), (.negSucc (nat_lit 2147483647), .ofNat (nat_lit 2147483647)), (.negSucc (nat_lit 2147483647), .ofNat (nat_lit 2147483647))], [], [nat_lit 0], [], []), nat_lit 0, nat_lit 0)], nat_lit 18446708889337462784, nat_lit 7900)
def kk_23_0_T : List (ab_S × ab_Rk) := []
def kk_23_0_s (pc : Nat) : Bool := bif Nat.beq pc (nat_lit 33) then true else false
def kk_23_0_h (pc : Nat) : List ab_Hn := []
def kk_23_0_k (pc : Nat) : Nat := nat_lit 0
theorem kk_23_0_e : ab_rn0 ab_cls kk_23_0.2.1.1 kk_23_0.2.1.2 kk_23_0.2.2.2.2.1 kk_23_0.2.2.2.2.2 [kk_94_0, kk_95_0] kk_23_0_k kk_23_0_h kk_23_0.1.1 kk_23_0_s (ab_fin kk_23_0.2.2.1.2.1.length kk_23_0.2.2.1.2.2.2.1.length kk_23_0.1.1 kk_23_0.2.2.2.1 none kk_23_0_T) (nat_lit 230) (ab_ent kk_23_0) = true := by decide +kernel
theorem kk_23_0_r : (kk_23_0_T.all fun T => ab_rn0 ab_cls kk_23_0.2.1.1 kk_23_0.2.1.2 kk_23_0.2.2.2.2.1 kk_23_0.2.2.2.2.2 [kk_94_0, kk_95_0] kk_23_0_k kk_23_0_h kk_23_0.1.1 kk_23_0_s (ab_fin kk_23_0.2.2.1.2.1.length kk_23_0.2.2.1.2.2.2.1.length kk_23_0.1.1 kk_23_0.2.2.2.1 (some T.2) kk_23_0_T) (nat_lit 230) T.1) = true := by decide +kernel
theorem kk_23_0_c {l : Launch} {D : va_G} {dA : Nat → ClassId} {xa : List Nat} {xt : ee_X} {B : Nat} (hxt : xt[1]? = some (some ab_rnd)) : ∀ K' ∈ ([kk_94_0, kk_95_0] : List ab_K), ab_CT ab_cls l D dA xa xt B K' ∧ K'.1.2 < kk_23_0.1.2 := by
  intro K' h'
  simp only [List.mem_cons, List.not_mem_nil, or_false] at h'
  rcases h' with rfl | rfl
  · exact ⟨kk_94_0_t hxt, by decide +kernel⟩
  · exact ⟨kk_95_0_t hxt, by decide +kernel⟩
theorem kk_23_0_t {l : Launch} {D : va_G} {dA : Nat → ClassId} {xa : List Nat} {xt : ee_X} {B : Nat} (hxt : xt[1]? = some (some ab_rnd)) : ab_CT ab_cls l D dA xa xt B kk_23_0 := ab_meth (Ks := [kk_94_0, kk_95_0]) (hk := kk_23_0_k) (ht := kk_23_0_h) (stop := kk_23_0_s) (Ts := kk_23_0_T) (n := nat_lit 230) hxt ab_hnc ab_hcok ab_hcok2 (by decide +kernel) (kk_23_0_c hxt) (by decide +kernel) kk_23_0_e (List.all_eq_true.mp kk_23_0_r)
/- StoreBufferHeap.reads -/
def kk_25_0 : ab_K := ((nat_lit 25, nat_lit 4), (nat_lit 0, nat_lit 0), ([.inr (.inl (nat_lit 1)), .inl (nat_lit 0, .ofNat (nat_lit 1), .ofNat (nat_lit 0)), .inl (nat_lit 1, .ofNat (nat_lit 1), .ofNat (nat_lit 0)), .inl (nat_lit 2, .ofNat (nat_lit 1), .ofNat (nat_lit 0)), .inl (nat_lit 3, .ofNat (nat_lit 1), .ofNat (nat_lit 0))], ([(.negSucc (nat_lit 2147483647), .ofNat (nat_lit 2147483647)), (.negSucc (nat_lit 2147483647), .ofNat (nat_lit 2147483647)), (.negSucc (nat_lit 2147483647), .ofNat (nat_lit 2147483647)), (.negSucc (nat_lit 2147483647), .ofNat (nat_lit 2147483647))], [], [nat_lit 0], [], [])), [(some (.inl (nat_lit 4, .ofNat (nat_lit 1), .ofNat (nat_lit 0))), ([(.negSucc (nat_lit 2147483647), .ofNat (nat_lit 2147483647)), (.negSucc (nat_lit 2147483647), .ofNat (nat_lit 2147483647)), (.negSucc (nat_lit 2147483647), .ofNat (nat_lit 2147483647)), (.negSucc (nat_lit 2147483647), .ofNat (nat_lit 2147483647)), (.negSucc (nat_lit 2147483647), .ofNat (nat_lit 2147483647))], [], [nat_lit 0], [], []), nat_lit 0, nat_lit 0)], nat_lit 18446708889337462784, nat_lit 7900)
def kk_25_0_T : List (ab_S × ab_Rk) := []
def kk_25_0_s (pc : Nat) : Bool := bif Nat.blt pc (nat_lit 40) then (bif Nat.beq pc (nat_lit 25) then true else false) else (bif Nat.beq pc (nat_lit 40) then true else false)
def kk_25_0_h (pc : Nat) : List ab_Hn := []
def kk_25_0_k (pc : Nat) : Nat := nat_lit 0
theorem kk_25_0_e : ab_rn0 ab_cls kk_25_0.2.1.1 kk_25_0.2.1.2 kk_25_0.2.2.2.2.1 kk_25_0.2.2.2.2.2 [kk_94_0, kk_95_0, kk_98_0, kk_99_0] kk_25_0_k kk_25_0_h kk_25_0.1.1 kk_25_0_s (ab_fin kk_25_0.2.2.1.2.1.length kk_25_0.2.2.1.2.2.2.1.length kk_25_0.1.1 kk_25_0.2.2.2.1 none kk_25_0_T) (nat_lit 300) (ab_ent kk_25_0) = true := by decide +kernel
theorem kk_25_0_r : (kk_25_0_T.all fun T => ab_rn0 ab_cls kk_25_0.2.1.1 kk_25_0.2.1.2 kk_25_0.2.2.2.2.1 kk_25_0.2.2.2.2.2 [kk_94_0, kk_95_0, kk_98_0, kk_99_0] kk_25_0_k kk_25_0_h kk_25_0.1.1 kk_25_0_s (ab_fin kk_25_0.2.2.1.2.1.length kk_25_0.2.2.1.2.2.2.1.length kk_25_0.1.1 kk_25_0.2.2.2.1 (some T.2) kk_25_0_T) (nat_lit 300) T.1) = true := by decide +kernel
theorem kk_25_0_c {l : Launch} {D : va_G} {dA : Nat → ClassId} {xa : List Nat} {xt : ee_X} {B : Nat} (hxt : xt[1]? = some (some ab_rnd)) : ∀ K' ∈ ([kk_94_0, kk_95_0, kk_98_0, kk_99_0] : List ab_K), ab_CT ab_cls l D dA xa xt B K' ∧ K'.1.2 < kk_25_0.1.2 := by
  intro K' h'
  simp only [List.mem_cons, List.not_mem_nil, or_false] at h'
  rcases h' with rfl | rfl | rfl | rfl
  · exact ⟨kk_94_0_t hxt, by decide +kernel⟩
  · exact ⟨kk_95_0_t hxt, by decide +kernel⟩
  · exact ⟨kk_98_0_t hxt, by decide +kernel⟩
  · exact ⟨kk_99_0_t hxt, by decide +kernel⟩
theorem kk_25_0_t {l : Launch} {D : va_G} {dA : Nat → ClassId} {xa : List Nat} {xt : ee_X} {B : Nat} (hxt : xt[1]? = some (some ab_rnd)) : ab_CT ab_cls l D dA xa xt B kk_25_0 := ab_meth (Ks := [kk_94_0, kk_95_0, kk_98_0, kk_99_0]) (hk := kk_25_0_k) (ht := kk_25_0_h) (stop := kk_25_0_s) (Ts := kk_25_0_T) (n := nat_lit 300) hxt ab_hnc ab_hcok ab_hcok2 (by decide +kernel) (kk_25_0_c hxt) (by decide +kernel) kk_25_0_e (List.all_eq_true.mp kk_25_0_r)
/- StoreBufferHeap.waits -/
def kk_27_0 : ab_K := ((nat_lit 27, nat_lit 3), (nat_lit 0, nat_lit 0), ([.inr (.inl (nat_lit 1)), .inl (nat_lit 0, .ofNat (nat_lit 1), .ofNat (nat_lit 0))], ([(.negSucc (nat_lit 2147483647), .ofNat (nat_lit 2147483647))], [], [nat_lit 0], [], [])), [(some (.inl (nat_lit 1, .ofNat (nat_lit 1), .ofNat (nat_lit 0))), ([(.negSucc (nat_lit 2147483647), .ofNat (nat_lit 2147483647)), (.negSucc (nat_lit 0), .ofNat (nat_lit 4))], [], [nat_lit 0], [], []), nat_lit 0, nat_lit 0)], nat_lit 18446708889337462784, nat_lit 7900)
def kk_27_0_T : List (ab_S × ab_Rk) := []
def kk_27_0_s (pc : Nat) : Bool := bif Nat.beq pc (nat_lit 24) then true else false
def kk_27_0_h (pc : Nat) : List ab_Hn := []
def kk_27_0_k (pc : Nat) : Nat := nat_lit 0
theorem kk_27_0_e : ab_rn0 ab_cls kk_27_0.2.1.1 kk_27_0.2.1.2 kk_27_0.2.2.2.2.1 kk_27_0.2.2.2.2.2 [kk_98_0] kk_27_0_k kk_27_0_h kk_27_0.1.1 kk_27_0_s (ab_fin kk_27_0.2.2.1.2.1.length kk_27_0.2.2.1.2.2.2.1.length kk_27_0.1.1 kk_27_0.2.2.2.1 none kk_27_0_T) (nat_lit 200) (ab_ent kk_27_0) = true := by decide +kernel
theorem kk_27_0_r : (kk_27_0_T.all fun T => ab_rn0 ab_cls kk_27_0.2.1.1 kk_27_0.2.1.2 kk_27_0.2.2.2.2.1 kk_27_0.2.2.2.2.2 [kk_98_0] kk_27_0_k kk_27_0_h kk_27_0.1.1 kk_27_0_s (ab_fin kk_27_0.2.2.1.2.1.length kk_27_0.2.2.1.2.2.2.1.length kk_27_0.1.1 kk_27_0.2.2.2.1 (some T.2) kk_27_0_T) (nat_lit 200) T.1) = true := by decide +kernel
theorem kk_27_0_c {l : Launch} {D : va_G} {dA : Nat → ClassId} {xa : List Nat} {xt : ee_X} {B : Nat} (hxt : xt[1]? = some (some ab_rnd)) : ∀ K' ∈ ([kk_98_0] : List ab_K), ab_CT ab_cls l D dA xa xt B K' ∧ K'.1.2 < kk_27_0.1.2 := by
  intro K' h'
  simp only [List.mem_cons, List.not_mem_nil, or_false] at h'
  subst h'
  exact ⟨kk_98_0_t hxt, by decide +kernel⟩
theorem kk_27_0_t {l : Launch} {D : va_G} {dA : Nat → ClassId} {xa : List Nat} {xt : ee_X} {B : Nat} (hxt : xt[1]? = some (some ab_rnd)) : ab_CT ab_cls l D dA xa xt B kk_27_0 := ab_meth (Ks := [kk_98_0]) (hk := kk_27_0_k) (ht := kk_27_0_h) (stop := kk_27_0_s) (Ts := kk_27_0_T) (n := nat_lit 200) hxt ab_hnc ab_hcok ab_hcok2 (by decide +kernel) (kk_27_0_c hxt) (by decide +kernel) kk_27_0_e (List.all_eq_true.mp kk_27_0_r)
/- StoreBufferHeap.write -/
def kk_29_0 : ab_K := ((nat_lit 29, nat_lit 3), (nat_lit 0, nat_lit 0), ([.inr (.inl (nat_lit 1)), .inl (nat_lit 0, .ofNat (nat_lit 1), .ofNat (nat_lit 0)), .inl (nat_lit 1, .ofNat (nat_lit 1), .ofNat (nat_lit 0)), .inl (nat_lit 2, .ofNat (nat_lit 1), .ofNat (nat_lit 0))], ([(.negSucc (nat_lit 2147483647), .ofNat (nat_lit 2147483647)), (.negSucc (nat_lit 2147483647), .ofNat (nat_lit 2147483647)), (.negSucc (nat_lit 2147483647), .ofNat (nat_lit 2147483647))], [], [nat_lit 0], [], [])), [(some (.inl (nat_lit 3, .ofNat (nat_lit 1), .ofNat (nat_lit 0))), ([(.negSucc (nat_lit 2147483647), .ofNat (nat_lit 2147483647)), (.negSucc (nat_lit 2147483647), .ofNat (nat_lit 2147483647)), (.negSucc (nat_lit 2147483647), .ofNat (nat_lit 2147483647)), (.negSucc (nat_lit 2147483647), .ofNat (nat_lit 2147483647))], [], [nat_lit 0], [], []), nat_lit 0, nat_lit 0)], nat_lit 18446708889337462784, nat_lit 7900)
def kk_29_0_T : List (ab_S × ab_Rk) := []
def kk_29_0_s (pc : Nat) : Bool := bif Nat.blt pc (nat_lit 152) then (bif Nat.blt pc (nat_lit 124) then (bif Nat.beq pc (nat_lit 31) then true else false) else (bif Nat.blt pc (nat_lit 138) then (bif Nat.beq pc (nat_lit 124) then true else false) else (bif Nat.beq pc (nat_lit 138) then true else false))) else (bif Nat.blt pc (nat_lit 169) then (bif Nat.beq pc (nat_lit 152) then true else false) else (bif Nat.blt pc (nat_lit 171) then (bif Nat.beq pc (nat_lit 169) then true else false) else (bif Nat.beq pc (nat_lit 171) then true else false)))
def kk_29_0_h (pc : Nat) : List ab_Hn := []
def kk_29_0_k (pc : Nat) : Nat := nat_lit 0
theorem kk_29_0_e : ab_rn0 ab_cls kk_29_0.2.1.1 kk_29_0.2.1.2 kk_29_0.2.2.2.2.1 kk_29_0.2.2.2.2.2 [kk_69_0, kk_91_0, kk_98_0] kk_29_0_k kk_29_0_h kk_29_0.1.1 kk_29_0_s (ab_fin kk_29_0.2.2.1.2.1.length kk_29_0.2.2.1.2.2.2.1.length kk_29_0.1.1 kk_29_0.2.2.2.1 none kk_29_0_T) (nat_lit 1010) (ab_ent kk_29_0) = true := by decide +kernel
theorem kk_29_0_r : (kk_29_0_T.all fun T => ab_rn0 ab_cls kk_29_0.2.1.1 kk_29_0.2.1.2 kk_29_0.2.2.2.2.1 kk_29_0.2.2.2.2.2 [kk_69_0, kk_91_0, kk_98_0] kk_29_0_k kk_29_0_h kk_29_0.1.1 kk_29_0_s (ab_fin kk_29_0.2.2.1.2.1.length kk_29_0.2.2.1.2.2.2.1.length kk_29_0.1.1 kk_29_0.2.2.2.1 (some T.2) kk_29_0_T) (nat_lit 1010) T.1) = true := by decide +kernel
theorem kk_29_0_c {l : Launch} {D : va_G} {dA : Nat → ClassId} {xa : List Nat} {xt : ee_X} {B : Nat} (hxt : xt[1]? = some (some ab_rnd)) : ∀ K' ∈ ([kk_69_0, kk_91_0, kk_98_0] : List ab_K), ab_CT ab_cls l D dA xa xt B K' ∧ K'.1.2 < kk_29_0.1.2 := by
  intro K' h'
  simp only [List.mem_cons, List.not_mem_nil, or_false] at h'
  rcases h' with rfl | rfl | rfl
  · exact ⟨kk_69_0_t hxt, by decide +kernel⟩
  · exact ⟨kk_91_0_t hxt, by decide +kernel⟩
  · exact ⟨kk_98_0_t hxt, by decide +kernel⟩
theorem kk_29_0_t {l : Launch} {D : va_G} {dA : Nat → ClassId} {xa : List Nat} {xt : ee_X} {B : Nat} (hxt : xt[1]? = some (some ab_rnd)) : ab_CT ab_cls l D dA xa xt B kk_29_0 := ab_meth (Ks := [kk_69_0, kk_91_0, kk_98_0]) (hk := kk_29_0_k) (ht := kk_29_0_h) (stop := kk_29_0_s) (Ts := kk_29_0_T) (n := nat_lit 1010) hxt ab_hnc ab_hcok ab_hcok2 (by decide +kernel) (kk_29_0_c hxt) (by decide +kernel) kk_29_0_e (List.all_eq_true.mp kk_29_0_r)
/- StoreBufferHeap.work -/
def kk_31_0 : ab_K := ((nat_lit 31, nat_lit 3), (nat_lit 0, nat_lit 0), ([.inr (.inl (nat_lit 1)), .inl (nat_lit 0, .ofNat (nat_lit 1), .ofNat (nat_lit 0))], ([(.negSucc (nat_lit 2147483647), .ofNat (nat_lit 2147483647))], [], [nat_lit 0], [], [])), [(some (.inl (nat_lit 1, .ofNat (nat_lit 1), .ofNat (nat_lit 0))), ([(.negSucc (nat_lit 2147483647), .ofNat (nat_lit 2147483647)), (.negSucc (nat_lit 2147483647), .ofNat (nat_lit 2147483647))], [], [nat_lit 0], [], []), nat_lit 0, nat_lit 0)], nat_lit 18446708889337462784, nat_lit 7900)
def kk_31_0_T : List (ab_S × ab_Rk) := []
def kk_31_0_s (pc : Nat) : Bool := bif Nat.beq pc (nat_lit 24) then true else false
def kk_31_0_h (pc : Nat) : List ab_Hn := []
def kk_31_0_k (pc : Nat) : Nat := nat_lit 0
theorem kk_31_0_e : ab_rn0 ab_cls kk_31_0.2.1.1 kk_31_0.2.1.2 kk_31_0.2.2.2.2.1 kk_31_0.2.2.2.2.2 [kk_98_0] kk_31_0_k kk_31_0_h kk_31_0.1.1 kk_31_0_s (ab_fin kk_31_0.2.2.1.2.1.length kk_31_0.2.2.1.2.2.2.1.length kk_31_0.1.1 kk_31_0.2.2.2.1 none kk_31_0_T) (nat_lit 200) (ab_ent kk_31_0) = true := by decide +kernel
theorem kk_31_0_r : (kk_31_0_T.all fun T => ab_rn0 ab_cls kk_31_0.2.1.1 kk_31_0.2.1.2 kk_31_0.2.2.2.2.1 kk_31_0.2.2.2.2.2 [kk_98_0] kk_31_0_k kk_31_0_h kk_31_0.1.1 kk_31_0_s (ab_fin kk_31_0.2.2.1.2.1.length kk_31_0.2.2.1.2.2.2.1.length kk_31_0.1.1 kk_31_0.2.2.2.1 (some T.2) kk_31_0_T) (nat_lit 200) T.1) = true := by decide +kernel
theorem kk_31_0_c {l : Launch} {D : va_G} {dA : Nat → ClassId} {xa : List Nat} {xt : ee_X} {B : Nat} (hxt : xt[1]? = some (some ab_rnd)) : ∀ K' ∈ ([kk_98_0] : List ab_K), ab_CT ab_cls l D dA xa xt B K' ∧ K'.1.2 < kk_31_0.1.2 := by
  intro K' h'
  simp only [List.mem_cons, List.not_mem_nil, or_false] at h'
  subst h'
  exact ⟨kk_98_0_t hxt, by decide +kernel⟩
theorem kk_31_0_t {l : Launch} {D : va_G} {dA : Nat → ClassId} {xa : List Nat} {xt : ee_X} {B : Nat} (hxt : xt[1]? = some (some ab_rnd)) : ab_CT ab_cls l D dA xa xt B kk_31_0 := ab_meth (Ks := [kk_98_0]) (hk := kk_31_0_k) (ht := kk_31_0_h) (stop := kk_31_0_s) (Ts := kk_31_0_T) (n := nat_lit 200) hxt ab_hnc ab_hcok ab_hcok2 (by decide +kernel) (kk_31_0_c hxt) (by decide +kernel) kk_31_0_e (List.all_eq_true.mp kk_31_0_r)
/- StoreBufferHeap.colour -/
def kk_35_0 : ab_K := ((nat_lit 35, nat_lit 3), (nat_lit 0, nat_lit 0), ([.inr (.inl (nat_lit 1)), .inl (nat_lit 0, .ofNat (nat_lit 1), .ofNat (nat_lit 0))], ([(.negSucc (nat_lit 2147483647), .ofNat (nat_lit 2147483647))], [], [nat_lit 0], [], [])), [(some (.inl (nat_lit 1, .ofNat (nat_lit 1), .ofNat (nat_lit 0))), ([(.negSucc (nat_lit 2147483647), .ofNat (nat_lit 2147483647)), (.negSucc (nat_lit 0), .ofNat (nat_lit 3))], [], [nat_lit 0], [], []), nat_lit 0, nat_lit 0)], nat_lit 18446708889337462784, nat_lit 7900)
def kk_35_0_T : List (ab_S × ab_Rk) := []
def kk_35_0_s (pc : Nat) : Bool := bif Nat.beq pc (nat_lit 20) then true else false
def kk_35_0_h (pc : Nat) : List ab_Hn := []
def kk_35_0_k (pc : Nat) : Nat := nat_lit 0
theorem kk_35_0_e : ab_rn0 ab_cls kk_35_0.2.1.1 kk_35_0.2.1.2 kk_35_0.2.2.2.2.1 kk_35_0.2.2.2.2.2 [kk_108_0, kk_109_0] kk_35_0_k kk_35_0_h kk_35_0.1.1 kk_35_0_s (ab_fin kk_35_0.2.2.1.2.1.length kk_35_0.2.2.1.2.2.2.1.length kk_35_0.1.1 kk_35_0.2.2.2.1 none kk_35_0_T) (nat_lit 180) (ab_ent kk_35_0) = true := by decide +kernel
theorem kk_35_0_r : (kk_35_0_T.all fun T => ab_rn0 ab_cls kk_35_0.2.1.1 kk_35_0.2.1.2 kk_35_0.2.2.2.2.1 kk_35_0.2.2.2.2.2 [kk_108_0, kk_109_0] kk_35_0_k kk_35_0_h kk_35_0.1.1 kk_35_0_s (ab_fin kk_35_0.2.2.1.2.1.length kk_35_0.2.2.1.2.2.2.1.length kk_35_0.1.1 kk_35_0.2.2.2.1 (some T.2) kk_35_0_T) (nat_lit 180) T.1) = true := by decide +kernel
theorem kk_35_0_c {l : Launch} {D : va_G} {dA : Nat → ClassId} {xa : List Nat} {xt : ee_X} {B : Nat} (hxt : xt[1]? = some (some ab_rnd)) : ∀ K' ∈ ([kk_108_0, kk_109_0] : List ab_K), ab_CT ab_cls l D dA xa xt B K' ∧ K'.1.2 < kk_35_0.1.2 := by
  intro K' h'
  simp only [List.mem_cons, List.not_mem_nil, or_false] at h'
  rcases h' with rfl | rfl
  · exact ⟨kk_108_0_t hxt, by decide +kernel⟩
  · exact ⟨kk_109_0_t hxt, by decide +kernel⟩
theorem kk_35_0_t {l : Launch} {D : va_G} {dA : Nat → ClassId} {xa : List Nat} {xt : ee_X} {B : Nat} (hxt : xt[1]? = some (some ab_rnd)) : ab_CT ab_cls l D dA xa xt B kk_35_0 := ab_meth (Ks := [kk_108_0, kk_109_0]) (hk := kk_35_0_k) (ht := kk_35_0_h) (stop := kk_35_0_s) (Ts := kk_35_0_T) (n := nat_lit 180) hxt ab_hnc ab_hcok ab_hcok2 (by decide +kernel) (kk_35_0_c hxt) (by decide +kernel) kk_35_0_e (List.all_eq_true.mp kk_35_0_r)
/- StoreBufferHeap.serial -/
def kk_37_0 : ab_K := ((nat_lit 37, nat_lit 3), (nat_lit 0, nat_lit 0), ([.inr (.inl (nat_lit 1)), .inl (nat_lit 0, .ofNat (nat_lit 1), .ofNat (nat_lit 0))], ([(.negSucc (nat_lit 2147483647), .ofNat (nat_lit 2147483647))], [], [nat_lit 0], [], [])), [(some (.inl (nat_lit 1, .ofNat (nat_lit 1), .ofNat (nat_lit 0))), ([(.negSucc (nat_lit 2147483647), .ofNat (nat_lit 2147483647)), (.negSucc (nat_lit 2147483647), .ofNat (nat_lit 2147483647))], [], [nat_lit 0], [], []), nat_lit 0, nat_lit 0)], nat_lit 18446708889337462784, nat_lit 7900)
def kk_37_0_T : List (ab_S × ab_Rk) := []
def kk_37_0_s (pc : Nat) : Bool := bif Nat.beq pc (nat_lit 21) then true else false
def kk_37_0_h (pc : Nat) : List ab_Hn := []
def kk_37_0_k (pc : Nat) : Nat := nat_lit 0
theorem kk_37_0_e : ab_rn0 ab_cls kk_37_0.2.1.1 kk_37_0.2.1.2 kk_37_0.2.2.2.2.1 kk_37_0.2.2.2.2.2 [kk_108_0] kk_37_0_k kk_37_0_h kk_37_0.1.1 kk_37_0_s (ab_fin kk_37_0.2.2.1.2.1.length kk_37_0.2.2.1.2.2.2.1.length kk_37_0.1.1 kk_37_0.2.2.2.1 none kk_37_0_T) (nat_lit 190) (ab_ent kk_37_0) = true := by decide +kernel
theorem kk_37_0_r : (kk_37_0_T.all fun T => ab_rn0 ab_cls kk_37_0.2.1.1 kk_37_0.2.1.2 kk_37_0.2.2.2.2.1 kk_37_0.2.2.2.2.2 [kk_108_0] kk_37_0_k kk_37_0_h kk_37_0.1.1 kk_37_0_s (ab_fin kk_37_0.2.2.1.2.1.length kk_37_0.2.2.1.2.2.2.1.length kk_37_0.1.1 kk_37_0.2.2.2.1 (some T.2) kk_37_0_T) (nat_lit 190) T.1) = true := by decide +kernel
theorem kk_37_0_c {l : Launch} {D : va_G} {dA : Nat → ClassId} {xa : List Nat} {xt : ee_X} {B : Nat} (hxt : xt[1]? = some (some ab_rnd)) : ∀ K' ∈ ([kk_108_0] : List ab_K), ab_CT ab_cls l D dA xa xt B K' ∧ K'.1.2 < kk_37_0.1.2 := by
  intro K' h'
  simp only [List.mem_cons, List.not_mem_nil, or_false] at h'
  subst h'
  exact ⟨kk_108_0_t hxt, by decide +kernel⟩
theorem kk_37_0_t {l : Launch} {D : va_G} {dA : Nat → ClassId} {xa : List Nat} {xt : ee_X} {B : Nat} (hxt : xt[1]? = some (some ab_rnd)) : ab_CT ab_cls l D dA xa xt B kk_37_0 := ab_meth (Ks := [kk_108_0]) (hk := kk_37_0_k) (ht := kk_37_0_h) (stop := kk_37_0_s) (Ts := kk_37_0_T) (n := nat_lit 190) hxt ab_hnc ab_hcok ab_hcok2 (by decide +kernel) (kk_37_0_c hxt) (by decide +kernel) kk_37_0_e (List.all_eq_true.mp kk_37_0_r)
/- StoreBufferHeap.reached -/
def kk_39_0 : ab_K := ((nat_lit 39, nat_lit 5), (nat_lit 0, nat_lit 0), ([.inr (.inl (nat_lit 1))], ([], [], [nat_lit 0], [], [])), [(some (.inl (nat_lit 0, .ofNat (nat_lit 1), .ofNat (nat_lit 0))), ([(.ofNat (nat_lit 0), .ofNat (nat_lit 255))], [], [nat_lit 0], [], []), nat_lit 0, nat_lit 0)], nat_lit 18446708889337462784, nat_lit 7900)
def kk_39_0_T : List (ab_S × ab_Rk) := []
def kk_39_0_s (pc : Nat) : Bool := bif Nat.beq pc (nat_lit 10) then true else false
def kk_39_0_h (pc : Nat) : List ab_Hn := []
def kk_39_0_k (pc : Nat) : Nat := nat_lit 0
theorem kk_39_0_e : ab_rn0 ab_cls kk_39_0.2.1.1 kk_39_0.2.1.2 kk_39_0.2.2.2.2.1 kk_39_0.2.2.2.2.2 [kk_112_0, kk_113_0] kk_39_0_k kk_39_0_h kk_39_0.1.1 kk_39_0_s (ab_fin kk_39_0.2.2.1.2.1.length kk_39_0.2.2.1.2.2.2.1.length kk_39_0.1.1 kk_39_0.2.2.2.1 none kk_39_0_T) (nat_lit 90) (ab_ent kk_39_0) = true := by decide +kernel
theorem kk_39_0_r : (kk_39_0_T.all fun T => ab_rn0 ab_cls kk_39_0.2.1.1 kk_39_0.2.1.2 kk_39_0.2.2.2.2.1 kk_39_0.2.2.2.2.2 [kk_112_0, kk_113_0] kk_39_0_k kk_39_0_h kk_39_0.1.1 kk_39_0_s (ab_fin kk_39_0.2.2.1.2.1.length kk_39_0.2.2.1.2.2.2.1.length kk_39_0.1.1 kk_39_0.2.2.2.1 (some T.2) kk_39_0_T) (nat_lit 90) T.1) = true := by decide +kernel
theorem kk_39_0_c {l : Launch} {D : va_G} {dA : Nat → ClassId} {xa : List Nat} {xt : ee_X} {B : Nat} (hxt : xt[1]? = some (some ab_rnd)) : ∀ K' ∈ ([kk_112_0, kk_113_0] : List ab_K), ab_CT ab_cls l D dA xa xt B K' ∧ K'.1.2 < kk_39_0.1.2 := by
  intro K' h'
  simp only [List.mem_cons, List.not_mem_nil, or_false] at h'
  rcases h' with rfl | rfl
  · exact ⟨kk_112_0_t hxt, by decide +kernel⟩
  · exact ⟨kk_113_0_t hxt, by decide +kernel⟩
theorem kk_39_0_t {l : Launch} {D : va_G} {dA : Nat → ClassId} {xa : List Nat} {xt : ee_X} {B : Nat} (hxt : xt[1]? = some (some ab_rnd)) : ab_CT ab_cls l D dA xa xt B kk_39_0 := ab_meth (Ks := [kk_112_0, kk_113_0]) (hk := kk_39_0_k) (ht := kk_39_0_h) (stop := kk_39_0_s) (Ts := kk_39_0_T) (n := nat_lit 90) hxt ab_hnc ab_hcok ab_hcok2 (by decide +kernel) (kk_39_0_c hxt) (by decide +kernel) kk_39_0_e (List.all_eq_true.mp kk_39_0_r)
/- StoreBufferHeap.lost -/
def kk_41_0 : ab_K := ((nat_lit 41, nat_lit 5), (nat_lit 0, nat_lit 0), ([.inr (.inl (nat_lit 1))], ([], [], [nat_lit 0], [], [])), [(some (.inl (nat_lit 0, .ofNat (nat_lit 1), .ofNat (nat_lit 0))), ([(.negSucc (nat_lit 8388607), .ofNat (nat_lit 8388607))], [], [nat_lit 0], [], []), nat_lit 0, nat_lit 0)], nat_lit 18446708889337462784, nat_lit 7900)
def kk_41_0_T : List (ab_S × ab_Rk) := []
def kk_41_0_s (pc : Nat) : Bool := bif Nat.beq pc (nat_lit 10) then true else false
def kk_41_0_h (pc : Nat) : List ab_Hn := []
def kk_41_0_k (pc : Nat) : Nat := nat_lit 0
theorem kk_41_0_e : ab_rn0 ab_cls kk_41_0.2.1.1 kk_41_0.2.1.2 kk_41_0.2.2.2.2.1 kk_41_0.2.2.2.2.2 [kk_112_0, kk_115_0] kk_41_0_k kk_41_0_h kk_41_0.1.1 kk_41_0_s (ab_fin kk_41_0.2.2.1.2.1.length kk_41_0.2.2.1.2.2.2.1.length kk_41_0.1.1 kk_41_0.2.2.2.1 none kk_41_0_T) (nat_lit 90) (ab_ent kk_41_0) = true := by decide +kernel
theorem kk_41_0_r : (kk_41_0_T.all fun T => ab_rn0 ab_cls kk_41_0.2.1.1 kk_41_0.2.1.2 kk_41_0.2.2.2.2.1 kk_41_0.2.2.2.2.2 [kk_112_0, kk_115_0] kk_41_0_k kk_41_0_h kk_41_0.1.1 kk_41_0_s (ab_fin kk_41_0.2.2.1.2.1.length kk_41_0.2.2.1.2.2.2.1.length kk_41_0.1.1 kk_41_0.2.2.2.1 (some T.2) kk_41_0_T) (nat_lit 90) T.1) = true := by decide +kernel
theorem kk_41_0_c {l : Launch} {D : va_G} {dA : Nat → ClassId} {xa : List Nat} {xt : ee_X} {B : Nat} (hxt : xt[1]? = some (some ab_rnd)) : ∀ K' ∈ ([kk_112_0, kk_115_0] : List ab_K), ab_CT ab_cls l D dA xa xt B K' ∧ K'.1.2 < kk_41_0.1.2 := by
  intro K' h'
  simp only [List.mem_cons, List.not_mem_nil, or_false] at h'
  rcases h' with rfl | rfl
  · exact ⟨kk_112_0_t hxt, by decide +kernel⟩
  · exact ⟨kk_115_0_t hxt, by decide +kernel⟩
theorem kk_41_0_t {l : Launch} {D : va_G} {dA : Nat → ClassId} {xa : List Nat} {xt : ee_X} {B : Nat} (hxt : xt[1]? = some (some ab_rnd)) : ab_CT ab_cls l D dA xa xt B kk_41_0 := ab_meth (Ks := [kk_112_0, kk_115_0]) (hk := kk_41_0_k) (ht := kk_41_0_h) (stop := kk_41_0_s) (Ts := kk_41_0_T) (n := nat_lit 90) hxt ab_hnc ab_hcok ab_hcok2 (by decide +kernel) (kk_41_0_c hxt) (by decide +kernel) kk_41_0_e (List.all_eq_true.mp kk_41_0_r)
/- StoreBufferHeap.harm -/
def kk_43_0 : ab_K := ((nat_lit 43, nat_lit 4), (nat_lit 0, nat_lit 0), ([.inr (.inl (nat_lit 1))], ([], [], [nat_lit 0], [], [])), [(some (.inl (nat_lit 0, .ofNat (nat_lit 1), .ofNat (nat_lit 0))), ([(.negSucc (nat_lit 0), .ofNat (nat_lit 702))], [], [nat_lit 0], [], []), nat_lit 0, nat_lit 0)], nat_lit 18446708889337462784, nat_lit 7900)
def kk_43_0_T : List (ab_S × ab_Rk) := []
def kk_43_0_s (pc : Nat) : Bool := bif Nat.beq pc (nat_lit 7) then true else false
def kk_43_0_h (pc : Nat) : List ab_Hn := []
def kk_43_0_k (pc : Nat) : Nat := nat_lit 0
theorem kk_43_0_e : ab_rn0 ab_cls kk_43_0.2.1.1 kk_43_0.2.1.2 kk_43_0.2.2.2.2.1 kk_43_0.2.2.2.2.2 [kk_116_0] kk_43_0_k kk_43_0_h kk_43_0.1.1 kk_43_0_s (ab_fin kk_43_0.2.2.1.2.1.length kk_43_0.2.2.1.2.2.2.1.length kk_43_0.1.1 kk_43_0.2.2.2.1 none kk_43_0_T) (nat_lit 80) (ab_ent kk_43_0) = true := by decide +kernel
theorem kk_43_0_r : (kk_43_0_T.all fun T => ab_rn0 ab_cls kk_43_0.2.1.1 kk_43_0.2.1.2 kk_43_0.2.2.2.2.1 kk_43_0.2.2.2.2.2 [kk_116_0] kk_43_0_k kk_43_0_h kk_43_0.1.1 kk_43_0_s (ab_fin kk_43_0.2.2.1.2.1.length kk_43_0.2.2.1.2.2.2.1.length kk_43_0.1.1 kk_43_0.2.2.2.1 (some T.2) kk_43_0_T) (nat_lit 80) T.1) = true := by decide +kernel
theorem kk_43_0_c {l : Launch} {D : va_G} {dA : Nat → ClassId} {xa : List Nat} {xt : ee_X} {B : Nat} (hxt : xt[1]? = some (some ab_rnd)) : ∀ K' ∈ ([kk_116_0] : List ab_K), ab_CT ab_cls l D dA xa xt B K' ∧ K'.1.2 < kk_43_0.1.2 := by
  intro K' h'
  simp only [List.mem_cons, List.not_mem_nil, or_false] at h'
  subst h'
  exact ⟨kk_116_0_t hxt, by decide +kernel⟩
theorem kk_43_0_t {l : Launch} {D : va_G} {dA : Nat → ClassId} {xa : List Nat} {xt : ee_X} {B : Nat} (hxt : xt[1]? = some (some ab_rnd)) : ab_CT ab_cls l D dA xa xt B kk_43_0 := ab_meth (Ks := [kk_116_0]) (hk := kk_43_0_k) (ht := kk_43_0_h) (stop := kk_43_0_s) (Ts := kk_43_0_T) (n := nat_lit 80) hxt ab_hnc ab_hcok ab_hcok2 (by decide +kernel) (kk_43_0_c hxt) (by decide +kernel) kk_43_0_e (List.all_eq_true.mp kk_43_0_r)
/- StoreBufferHeap.seen -/
def kk_45_0 : ab_K := ((nat_lit 45, nat_lit 3), (nat_lit 0, nat_lit 0), ([.inr (.inl (nat_lit 1)), .inl (nat_lit 0, .ofNat (nat_lit 1), .ofNat (nat_lit 0)), .inl (nat_lit 1, .ofNat (nat_lit 1), .ofNat (nat_lit 0))], ([(.negSucc (nat_lit 2147483647), .ofNat (nat_lit 2147483647)), (.negSucc (nat_lit 2147483647), .ofNat (nat_lit 2147483647))], [], [nat_lit 0], [], [])), [(some (.inl (nat_lit 2, .ofNat (nat_lit 1), .ofNat (nat_lit 0))), ([(.negSucc (nat_lit 2147483647), .ofNat (nat_lit 2147483647)), (.negSucc (nat_lit 2147483647), .ofNat (nat_lit 2147483647)), (.negSucc (nat_lit 2147483647), .ofNat (nat_lit 2147483647))], [], [nat_lit 0], [], []), nat_lit 0, nat_lit 0)], nat_lit 18446708889337462784, nat_lit 7900)
def kk_45_0_T : List (ab_S × ab_Rk) := []
def kk_45_0_s (pc : Nat) : Bool := bif Nat.beq pc (nat_lit 28) then true else false
def kk_45_0_h (pc : Nat) : List ab_Hn := []
def kk_45_0_k (pc : Nat) : Nat := nat_lit 0
theorem kk_45_0_e : ab_rn0 ab_cls kk_45_0.2.1.1 kk_45_0.2.1.2 kk_45_0.2.2.2.2.1 kk_45_0.2.2.2.2.2 [kk_75_0, kk_118_0] kk_45_0_k kk_45_0_h kk_45_0.1.1 kk_45_0_s (ab_fin kk_45_0.2.2.1.2.1.length kk_45_0.2.2.1.2.2.2.1.length kk_45_0.1.1 kk_45_0.2.2.2.1 none kk_45_0_T) (nat_lit 230) (ab_ent kk_45_0) = true := by decide +kernel
theorem kk_45_0_r : (kk_45_0_T.all fun T => ab_rn0 ab_cls kk_45_0.2.1.1 kk_45_0.2.1.2 kk_45_0.2.2.2.2.1 kk_45_0.2.2.2.2.2 [kk_75_0, kk_118_0] kk_45_0_k kk_45_0_h kk_45_0.1.1 kk_45_0_s (ab_fin kk_45_0.2.2.1.2.1.length kk_45_0.2.2.1.2.2.2.1.length kk_45_0.1.1 kk_45_0.2.2.2.1 (some T.2) kk_45_0_T) (nat_lit 230) T.1) = true := by decide +kernel
theorem kk_45_0_c {l : Launch} {D : va_G} {dA : Nat → ClassId} {xa : List Nat} {xt : ee_X} {B : Nat} (hxt : xt[1]? = some (some ab_rnd)) : ∀ K' ∈ ([kk_75_0, kk_118_0] : List ab_K), ab_CT ab_cls l D dA xa xt B K' ∧ K'.1.2 < kk_45_0.1.2 := by
  intro K' h'
  simp only [List.mem_cons, List.not_mem_nil, or_false] at h'
  rcases h' with rfl | rfl
  · exact ⟨kk_75_0_t hxt, by decide +kernel⟩
  · exact ⟨kk_118_0_t hxt, by decide +kernel⟩
theorem kk_45_0_t {l : Launch} {D : va_G} {dA : Nat → ClassId} {xa : List Nat} {xt : ee_X} {B : Nat} (hxt : xt[1]? = some (some ab_rnd)) : ab_CT ab_cls l D dA xa xt B kk_45_0 := ab_meth (Ks := [kk_75_0, kk_118_0]) (hk := kk_45_0_k) (ht := kk_45_0_h) (stop := kk_45_0_s) (Ts := kk_45_0_T) (n := nat_lit 230) hxt ab_hnc ab_hcok ab_hcok2 (by decide +kernel) (kk_45_0_c hxt) (by decide +kernel) kk_45_0_e (List.all_eq_true.mp kk_45_0_r)
/- StoreBufferHeap.count -/
def kk_57_0 : ab_K := ((nat_lit 57, nat_lit 2), (nat_lit 0, nat_lit 0), ([.inr (.inl (nat_lit 1)), .inl (nat_lit 0, .ofNat (nat_lit 1), .ofNat (nat_lit 0))], ([(.negSucc (nat_lit 2147483647), .ofNat (nat_lit 2147483647))], [], [nat_lit 0], [], [])), [(some (.inl (nat_lit 1, .ofNat (nat_lit 1), .ofNat (nat_lit 0))), ([(.negSucc (nat_lit 2147483647), .ofNat (nat_lit 2147483647)), (.negSucc (nat_lit 2147483647), .ofNat (nat_lit 2147483647))], [], [nat_lit 0], [], []), nat_lit 0, nat_lit 0)], nat_lit 18446708889337462784, nat_lit 7900)
def kk_57_0_T : List (ab_S × ab_Rk) := []
def kk_57_0_s (pc : Nat) : Bool := bif Nat.blt pc (nat_lit 99) then (bif Nat.blt pc (nat_lit 75) then (bif Nat.blt pc (nat_lit 67) then (bif Nat.beq pc (nat_lit 59) then true else false) else (bif Nat.beq pc (nat_lit 67) then true else false)) else (bif Nat.blt pc (nat_lit 83) then (bif Nat.beq pc (nat_lit 75) then true else false) else (bif Nat.blt pc (nat_lit 91) then (bif Nat.beq pc (nat_lit 83) then true else false) else (bif Nat.beq pc (nat_lit 91) then true else false)))) else (bif Nat.blt pc (nat_lit 118) then (bif Nat.blt pc (nat_lit 107) then (bif Nat.beq pc (nat_lit 99) then true else false) else (bif Nat.beq pc (nat_lit 107) then true else false)) else (bif Nat.blt pc (nat_lit 126) then (bif Nat.beq pc (nat_lit 118) then true else false) else (bif Nat.blt pc (nat_lit 166) then (bif Nat.beq pc (nat_lit 126) then true else false) else (bif Nat.beq pc (nat_lit 166) then true else false))))
def kk_57_0_h (pc : Nat) : List ab_Hn := []
def kk_57_0_k (pc : Nat) : Nat := nat_lit 0
theorem kk_57_0_e : ab_rn0 ab_cls kk_57_0.2.1.1 kk_57_0.2.1.2 kk_57_0.2.2.2.2.1 kk_57_0.2.2.2.2.2 [kk_69_0, kk_129_0] kk_57_0_k kk_57_0_h kk_57_0.1.1 kk_57_0_s (ab_fin kk_57_0.2.2.1.2.1.length kk_57_0.2.2.1.2.2.2.1.length kk_57_0.1.1 kk_57_0.2.2.2.1 none kk_57_0_T) (nat_lit 670) (ab_ent kk_57_0) = true := by decide +kernel
theorem kk_57_0_r : (kk_57_0_T.all fun T => ab_rn0 ab_cls kk_57_0.2.1.1 kk_57_0.2.1.2 kk_57_0.2.2.2.2.1 kk_57_0.2.2.2.2.2 [kk_69_0, kk_129_0] kk_57_0_k kk_57_0_h kk_57_0.1.1 kk_57_0_s (ab_fin kk_57_0.2.2.1.2.1.length kk_57_0.2.2.1.2.2.2.1.length kk_57_0.1.1 kk_57_0.2.2.2.1 (some T.2) kk_57_0_T) (nat_lit 670) T.1) = true := by decide +kernel
theorem kk_57_0_c {l : Launch} {D : va_G} {dA : Nat → ClassId} {xa : List Nat} {xt : ee_X} {B : Nat} (hxt : xt[1]? = some (some ab_rnd)) : ∀ K' ∈ ([kk_69_0, kk_129_0] : List ab_K), ab_CT ab_cls l D dA xa xt B K' ∧ K'.1.2 < kk_57_0.1.2 := by
  intro K' h'
  simp only [List.mem_cons, List.not_mem_nil, or_false] at h'
  rcases h' with rfl | rfl
  · exact ⟨kk_69_0_t hxt, by decide +kernel⟩
  · exact ⟨kk_129_0_t hxt, by decide +kernel⟩
theorem kk_57_0_t {l : Launch} {D : va_G} {dA : Nat → ClassId} {xa : List Nat} {xt : ee_X} {B : Nat} (hxt : xt[1]? = some (some ab_rnd)) : ab_CT ab_cls l D dA xa xt B kk_57_0 := ab_meth (Ks := [kk_69_0, kk_129_0]) (hk := kk_57_0_k) (ht := kk_57_0_h) (stop := kk_57_0_s) (Ts := kk_57_0_T) (n := nat_lit 670) hxt ab_hnc ab_hcok ab_hcok2 (by decide +kernel) (kk_57_0_c hxt) (by decide +kernel) kk_57_0_e (List.all_eq_true.mp kk_57_0_r)
/- StoreBufferHeap$Strand.copyFrom -/
def kk_188_0 : ab_K := ((nat_lit 188, nat_lit 1), (nat_lit 0, nat_lit 0), ([.inr (.inl (nat_lit 1)), .inr (.inl (nat_lit 3))], ([], [], [nat_lit 11, nat_lit 11], [], [])), [(none, ([], [], [nat_lit 11, nat_lit 11], [], []), nat_lit 0, nat_lit 0)], nat_lit 18446708889337477120, nat_lit 7900)
def kk_188_0_T : List (ab_S × ab_Rk) := []
def kk_188_0_s (pc : Nat) : Bool := bif Nat.beq pc (nat_lit 76) then true else false
def kk_188_0_h (pc : Nat) : List ab_Hn := []
def kk_188_0_k (pc : Nat) : Nat := nat_lit 0
theorem kk_188_0_e : ab_rn0 ab_cls kk_188_0.2.1.1 kk_188_0.2.1.2 kk_188_0.2.2.2.2.1 kk_188_0.2.2.2.2.2 [] kk_188_0_k kk_188_0_h kk_188_0.1.1 kk_188_0_s (ab_fin kk_188_0.2.2.1.2.1.length kk_188_0.2.2.1.2.2.2.1.length kk_188_0.1.1 kk_188_0.2.2.2.1 none kk_188_0_T) (nat_lit 450) (ab_ent kk_188_0) = true := by decide +kernel
theorem kk_188_0_r : (kk_188_0_T.all fun T => ab_rn0 ab_cls kk_188_0.2.1.1 kk_188_0.2.1.2 kk_188_0.2.2.2.2.1 kk_188_0.2.2.2.2.2 [] kk_188_0_k kk_188_0_h kk_188_0.1.1 kk_188_0_s (ab_fin kk_188_0.2.2.1.2.1.length kk_188_0.2.2.1.2.2.2.1.length kk_188_0.1.1 kk_188_0.2.2.2.1 (some T.2) kk_188_0_T) (nat_lit 450) T.1) = true := by decide +kernel
theorem kk_188_0_t {l : Launch} {D : va_G} {dA : Nat → ClassId} {xa : List Nat} {xt : ee_X} {B : Nat} (hxt : xt[1]? = some (some ab_rnd)) : ab_CT ab_cls l D dA xa xt B kk_188_0 := ab_meth (Ks := []) (hk := kk_188_0_k) (ht := kk_188_0_h) (stop := kk_188_0_s) (Ts := kk_188_0_T) (n := nat_lit 450) hxt ab_hnc ab_hcok ab_hcok2 (by decide +kernel) (fun K' h' => by cases h') (by decide +kernel) kk_188_0_e (List.all_eq_true.mp kk_188_0_r)
/- StoreBufferHeap$Tape.copyFrom -/
def kk_132_0 : ab_K := ((nat_lit 132, nat_lit 1), (nat_lit 0, nat_lit 0), ([.inr (.inl (nat_lit 1)), .inr (.inl (nat_lit 3))], ([], [], [nat_lit 1, nat_lit 1], [], [])), [(none, ([], [], [nat_lit 1, nat_lit 1], [], []), nat_lit 0, nat_lit 0)], nat_lit 18446708889337462790, nat_lit 7900)
def kk_132_0_T : List (ab_S × ab_Rk) := []
def kk_132_0_s (pc : Nat) : Bool := bif Nat.beq pc (nat_lit 40) then true else false
def kk_132_0_h (pc : Nat) : List ab_Hn := []
def kk_132_0_k (pc : Nat) : Nat := nat_lit 0
theorem kk_132_0_e : ab_rn0 ab_cls kk_132_0.2.1.1 kk_132_0.2.1.2 kk_132_0.2.2.2.2.1 kk_132_0.2.2.2.2.2 [] kk_132_0_k kk_132_0_h kk_132_0.1.1 kk_132_0_s (ab_fin kk_132_0.2.2.1.2.1.length kk_132_0.2.2.1.2.2.2.1.length kk_132_0.1.1 kk_132_0.2.2.2.1 none kk_132_0_T) (nat_lit 250) (ab_ent kk_132_0) = true := by decide +kernel
theorem kk_132_0_r : (kk_132_0_T.all fun T => ab_rn0 ab_cls kk_132_0.2.1.1 kk_132_0.2.1.2 kk_132_0.2.2.2.2.1 kk_132_0.2.2.2.2.2 [] kk_132_0_k kk_132_0_h kk_132_0.1.1 kk_132_0_s (ab_fin kk_132_0.2.2.1.2.1.length kk_132_0.2.2.1.2.2.2.1.length kk_132_0.1.1 kk_132_0.2.2.2.1 (some T.2) kk_132_0_T) (nat_lit 250) T.1) = true := by decide +kernel
theorem kk_132_0_t {l : Launch} {D : va_G} {dA : Nat → ClassId} {xa : List Nat} {xt : ee_X} {B : Nat} (hxt : xt[1]? = some (some ab_rnd)) : ab_CT ab_cls l D dA xa xt B kk_132_0 := ab_meth (Ks := []) (hk := kk_132_0_k) (ht := kk_132_0_h) (stop := kk_132_0_s) (Ts := kk_132_0_T) (n := nat_lit 250) hxt ab_hnc ab_hcok ab_hcok2 (by decide +kernel) (fun K' h' => by cases h') (by decide +kernel) kk_132_0_e (List.all_eq_true.mp kk_132_0_r)
/- StoreBufferHeap$Collector.copyFrom -/
def kk_190_0 : ab_K := ((nat_lit 190, nat_lit 1), (nat_lit 0, nat_lit 0), ([.inr (.inl (nat_lit 1)), .inr (.inl (nat_lit 3))], ([], [], [nat_lit 18, nat_lit 18], [], [])), [(none, ([], [], [nat_lit 18, nat_lit 18], [], []), nat_lit 0, nat_lit 0)], nat_lit 18446708889337724928, nat_lit 7900)
def kk_190_0_T : List (ab_S × ab_Rk) := []
def kk_190_0_s (pc : Nat) : Bool := bif Nat.beq pc (nat_lit 40) then true else false
def kk_190_0_h (pc : Nat) : List ab_Hn := bif Nat.blt pc (nat_lit 37) then (bif Nat.beq pc (nat_lit 0) then [(nat_lit 4, ((nat_lit 0, nat_lit 1), []), nat_lit 3, .ofNat (nat_lit 0), ((nat_lit 0, nat_lit 0), [])), (nat_lit 2, ((nat_lit 0, nat_lit 1), []), nat_lit 0, .ofNat (nat_lit 0), ((nat_lit 0, nat_lit 0), []))] else []) else (bif Nat.beq pc (nat_lit 37) then [(nat_lit 3, ((nat_lit 0, nat_lit 0), []), nat_lit 0, .ofNat (nat_lit 0), ((nat_lit 0, nat_lit 0), []))] else [])
def kk_190_0_k (pc : Nat) : Nat := nat_lit 0
theorem kk_190_0_e : ab_rn0 ab_cls kk_190_0.2.1.1 kk_190_0.2.1.2 kk_190_0.2.2.2.2.1 kk_190_0.2.2.2.2.2 [] kk_190_0_k kk_190_0_h kk_190_0.1.1 kk_190_0_s (ab_fin kk_190_0.2.2.1.2.1.length kk_190_0.2.2.1.2.2.2.1.length kk_190_0.1.1 kk_190_0.2.2.2.1 none kk_190_0_T) (nat_lit 250) (ab_ent kk_190_0) = true := by decide +kernel
theorem kk_190_0_r : (kk_190_0_T.all fun T => ab_rn0 ab_cls kk_190_0.2.1.1 kk_190_0.2.1.2 kk_190_0.2.2.2.2.1 kk_190_0.2.2.2.2.2 [] kk_190_0_k kk_190_0_h kk_190_0.1.1 kk_190_0_s (ab_fin kk_190_0.2.2.1.2.1.length kk_190_0.2.2.1.2.2.2.1.length kk_190_0.1.1 kk_190_0.2.2.2.1 (some T.2) kk_190_0_T) (nat_lit 250) T.1) = true := by decide +kernel
theorem kk_190_0_t {l : Launch} {D : va_G} {dA : Nat → ClassId} {xa : List Nat} {xt : ee_X} {B : Nat} (hxt : xt[1]? = some (some ab_rnd)) : ab_CT ab_cls l D dA xa xt B kk_190_0 := ab_meth (Ks := []) (hk := kk_190_0_k) (ht := kk_190_0_h) (stop := kk_190_0_s) (Ts := kk_190_0_T) (n := nat_lit 250) hxt ab_hnc ab_hcok ab_hcok2 (by decide +kernel) (fun K' h' => by cases h') (by decide +kernel) kk_190_0_e (List.all_eq_true.mp kk_190_0_r)
/- StoreBufferHeap$Mutator.copyFrom -/
def kk_189_0 : ab_K := ((nat_lit 189, nat_lit 1), (nat_lit 0, nat_lit 0), ([.inr (.inl (nat_lit 1)), .inr (.inl (nat_lit 3))], ([], [], [nat_lit 14, nat_lit 14], [], [])), [(none, ([], [], [nat_lit 14, nat_lit 14], [], []), nat_lit 0, nat_lit 0)], nat_lit 18446708889337577472, nat_lit 7900)
def kk_189_0_T : List (ab_S × ab_Rk) := []
def kk_189_0_s (pc : Nat) : Bool := bif Nat.beq pc (nat_lit 85) then true else false
def kk_189_0_h (pc : Nat) : List ab_Hn := bif Nat.blt pc (nat_lit 82) then (bif Nat.beq pc (nat_lit 0) then [(nat_lit 4, ((nat_lit 0, nat_lit 1), []), nat_lit 4, .ofNat (nat_lit 0), ((nat_lit 0, nat_lit 0), [])), (nat_lit 0, ((nat_lit 0, nat_lit 1), [(nat_lit 0, nat_lit 4, .ofNat (nat_lit 0), .ofNat (nat_lit 0))]), nat_lit 0, .ofNat (nat_lit 0), ((nat_lit 0, nat_lit 0), [])), (nat_lit 0, ((nat_lit 0, nat_lit 1), [(nat_lit 0, nat_lit 4, .ofNat (nat_lit 0), .ofNat (nat_lit 0))]), nat_lit 0, .ofNat (nat_lit 2), ((nat_lit 0, nat_lit 0), [])), (nat_lit 4, ((nat_lit 0, nat_lit 1), []), nat_lit 7, .ofNat (nat_lit 0), ((nat_lit 0, nat_lit 0), [])), (nat_lit 4, ((nat_lit 0, nat_lit 1), []), nat_lit 3, .ofNat (nat_lit 0), ((nat_lit 0, nat_lit 0), [])), (nat_lit 9, ((nat_lit 0, nat_lit 1), []), nat_lit 0, .ofNat (nat_lit 0), ((nat_lit 0, nat_lit 0), []))] else []) else (bif Nat.beq pc (nat_lit 82) then [(nat_lit 3, ((nat_lit 0, nat_lit 0), []), nat_lit 0, .ofNat (nat_lit 0), ((nat_lit 0, nat_lit 0), []))] else [])
def kk_189_0_k (pc : Nat) : Nat := nat_lit 0
theorem kk_189_0_e : ab_rn0 ab_cls kk_189_0.2.1.1 kk_189_0.2.1.2 kk_189_0.2.2.2.2.1 kk_189_0.2.2.2.2.2 [] kk_189_0_k kk_189_0_h kk_189_0.1.1 kk_189_0_s (ab_fin kk_189_0.2.2.1.2.1.length kk_189_0.2.2.1.2.2.2.1.length kk_189_0.1.1 kk_189_0.2.2.2.1 none kk_189_0_T) (nat_lit 1370) (ab_ent kk_189_0) = true := by decide +kernel
theorem kk_189_0_r : (kk_189_0_T.all fun T => ab_rn0 ab_cls kk_189_0.2.1.1 kk_189_0.2.1.2 kk_189_0.2.2.2.2.1 kk_189_0.2.2.2.2.2 [] kk_189_0_k kk_189_0_h kk_189_0.1.1 kk_189_0_s (ab_fin kk_189_0.2.2.1.2.1.length kk_189_0.2.2.1.2.2.2.1.length kk_189_0.1.1 kk_189_0.2.2.2.1 (some T.2) kk_189_0_T) (nat_lit 1370) T.1) = true := by decide +kernel
theorem kk_189_0_t {l : Launch} {D : va_G} {dA : Nat → ClassId} {xa : List Nat} {xt : ee_X} {B : Nat} (hxt : xt[1]? = some (some ab_rnd)) : ab_CT ab_cls l D dA xa xt B kk_189_0 := ab_meth (Ks := []) (hk := kk_189_0_k) (ht := kk_189_0_h) (stop := kk_189_0_s) (Ts := kk_189_0_T) (n := nat_lit 1370) hxt ab_hnc ab_hcok ab_hcok2 (by decide +kernel) (fun K' h' => by cases h') (by decide +kernel) kk_189_0_e (List.all_eq_true.mp kk_189_0_r)
/- java/util/Arrays.rangeCheck -/
def kk_191_0 : ab_K := ((nat_lit 191, nat_lit 1), (nat_lit 0, nat_lit 0), ([.inl (nat_lit 0, .ofNat (nat_lit 1), .ofNat (nat_lit 0)), .inl (nat_lit 1, .ofNat (nat_lit 1), .ofNat (nat_lit 0)), .inl (nat_lit 2, .ofNat (nat_lit 1), .ofNat (nat_lit 0))], ([(.ofNat (nat_lit 0), .ofNat (nat_lit 2097152)), (.ofNat (nat_lit 0), .ofNat (nat_lit 2097152)), (.ofNat (nat_lit 0), .ofNat (nat_lit 2097152))], [(nat_lit 0, nat_lit 2, .ofNat (nat_lit 0)), (nat_lit 2, nat_lit 1, .ofNat (nat_lit 0))], [], [], [])), [(none, ([(.ofNat (nat_lit 0), .ofNat (nat_lit 2097152)), (.ofNat (nat_lit 0), .ofNat (nat_lit 2097152)), (.ofNat (nat_lit 0), .ofNat (nat_lit 2097152))], [(nat_lit 0, nat_lit 2, .ofNat (nat_lit 0)), (nat_lit 2, nat_lit 1, .ofNat (nat_lit 0)), (nat_lit 0, nat_lit 2, .ofNat (nat_lit 0)), (nat_lit 2, nat_lit 1, .ofNat (nat_lit 0))], [], [], []), nat_lit 0, nat_lit 0)], nat_lit 18446708889337462784, nat_lit 7900)
def kk_191_0_T : List (ab_S × ab_Rk) := []
def kk_191_0_s (pc : Nat) : Bool := bif Nat.beq pc (nat_lit 73) then true else false
def kk_191_0_h (pc : Nat) : List ab_Hn := []
def kk_191_0_k (pc : Nat) : Nat := nat_lit 0
theorem kk_191_0_e : ab_rn0 ab_cls kk_191_0.2.1.1 kk_191_0.2.1.2 kk_191_0.2.2.2.2.1 kk_191_0.2.2.2.2.2 [] kk_191_0_k kk_191_0_h kk_191_0.1.1 kk_191_0_s (ab_fin kk_191_0.2.2.1.2.1.length kk_191_0.2.2.1.2.2.2.1.length kk_191_0.1.1 kk_191_0.2.2.2.1 none kk_191_0_T) (nat_lit 130) (ab_ent kk_191_0) = true := by decide +kernel
theorem kk_191_0_r : (kk_191_0_T.all fun T => ab_rn0 ab_cls kk_191_0.2.1.1 kk_191_0.2.1.2 kk_191_0.2.2.2.2.1 kk_191_0.2.2.2.2.2 [] kk_191_0_k kk_191_0_h kk_191_0.1.1 kk_191_0_s (ab_fin kk_191_0.2.2.1.2.1.length kk_191_0.2.2.1.2.2.2.1.length kk_191_0.1.1 kk_191_0.2.2.2.1 (some T.2) kk_191_0_T) (nat_lit 130) T.1) = true := by decide +kernel
theorem kk_191_0_t {l : Launch} {D : va_G} {dA : Nat → ClassId} {xa : List Nat} {xt : ee_X} {B : Nat} (hxt : xt[1]? = some (some ab_rnd)) : ab_CT ab_cls l D dA xa xt B kk_191_0 := ab_meth (Ks := []) (hk := kk_191_0_k) (ht := kk_191_0_h) (stop := kk_191_0_s) (Ts := kk_191_0_T) (n := nat_lit 130) hxt ab_hnc ab_hcok ab_hcok2 (by decide +kernel) (fun K' h' => by cases h') (by decide +kernel) kk_191_0_e (List.all_eq_true.mp kk_191_0_r)
/- java/util/Arrays.fill -/
def kk_137_0 : ab_K := ((nat_lit 137, nat_lit 2), (nat_lit 0, nat_lit 0), ([.inr (.inl (nat_lit 1)), .inl (nat_lit 0, .ofNat (nat_lit 1), .ofNat (nat_lit 0)), .inl (nat_lit 1, .ofNat (nat_lit 1), .ofNat (nat_lit 0)), .inl (nat_lit 2, .ofNat (nat_lit 1), .ofNat (nat_lit 0))], ([(.ofNat (nat_lit 0), .ofNat (nat_lit 24)), (.ofNat (nat_lit 24), .ofNat (nat_lit 35)), (.negSucc (nat_lit 2147483647), .ofNat (nat_lit 2147483647))], [(nat_lit 1, nat_lit 0, .ofNat (nat_lit 0))], [nat_lit 7], [], [])), [(none, ([(.ofNat (nat_lit 0), .ofNat (nat_lit 24)), (.ofNat (nat_lit 24), .ofNat (nat_lit 35)), (.negSucc (nat_lit 2147483647), .ofNat (nat_lit 2147483647))], [], [nat_lit 7], [], []), nat_lit 0, nat_lit 0)], nat_lit 18446708889337462912, nat_lit 7900)
def kk_137_0_T : List (ab_S × ab_Rk) := [((nat_lit 10, [.inr (.inl (nat_lit 1)), .inl (nat_lit 0, .ofNat (nat_lit 1), .ofNat (nat_lit 0)), .inl (nat_lit 1, .ofNat (nat_lit 1), .ofNat (nat_lit 0)), .inl (nat_lit 2, .ofNat (nat_lit 1), .ofNat (nat_lit 0)), .inl (nat_lit 3, .ofNat (nat_lit 1), .ofNat (nat_lit 0))], [], ([(.ofNat (nat_lit 0), .ofNat (nat_lit 24)), (.ofNat (nat_lit 24), .ofNat (nat_lit 35)), (.negSucc (nat_lit 2147483647), .ofNat (nat_lit 2147483647)), (.ofNat (nat_lit 0), .ofNat (nat_lit 63))], [(nat_lit 3, nat_lit 0, .ofNat (nat_lit 0)), (nat_lit 1, nat_lit 3, .ofNat (nat_lit 0))], [nat_lit 7], [], []), nat_lit 0, nat_lit 0), ((.negSucc (nat_lit 0), (nat_lit 3, .ofNat (nat_lit 1), .ofNat (nat_lit 0))), (.ofNat (nat_lit 1), (nat_lit 0, .ofNat (nat_lit 0), .ofNat (nat_lit 99))), (.ofNat (nat_lit 1), (nat_lit 0, .ofNat (nat_lit 0), .ofNat (nat_lit 0)))))]
def kk_137_0_s (pc : Nat) : Bool := bif Nat.blt pc (nat_lit 27) then (bif Nat.beq pc (nat_lit 10) then true else false) else (bif Nat.beq pc (nat_lit 27) then true else false)
def kk_137_0_h (pc : Nat) : List ab_Hn := []
def kk_137_0_k (pc : Nat) : Nat := nat_lit 0
theorem kk_137_0_e : ab_rn0 ab_cls kk_137_0.2.1.1 kk_137_0.2.1.2 kk_137_0.2.2.2.2.1 kk_137_0.2.2.2.2.2 [kk_191_0] kk_137_0_k kk_137_0_h kk_137_0.1.1 kk_137_0_s (ab_fin kk_137_0.2.2.1.2.1.length kk_137_0.2.2.1.2.2.2.1.length kk_137_0.1.1 kk_137_0.2.2.2.1 none kk_137_0_T) (nat_lit 850) (ab_ent kk_137_0) = true := by decide +kernel
theorem kk_137_0_r : (kk_137_0_T.all fun T => ab_rn0 ab_cls kk_137_0.2.1.1 kk_137_0.2.1.2 kk_137_0.2.2.2.2.1 kk_137_0.2.2.2.2.2 [kk_191_0] kk_137_0_k kk_137_0_h kk_137_0.1.1 kk_137_0_s (ab_fin kk_137_0.2.2.1.2.1.length kk_137_0.2.2.1.2.2.2.1.length kk_137_0.1.1 kk_137_0.2.2.2.1 (some T.2) kk_137_0_T) (nat_lit 850) T.1) = true := by decide +kernel
theorem kk_137_0_c {l : Launch} {D : va_G} {dA : Nat → ClassId} {xa : List Nat} {xt : ee_X} {B : Nat} (hxt : xt[1]? = some (some ab_rnd)) : ∀ K' ∈ ([kk_191_0] : List ab_K), ab_CT ab_cls l D dA xa xt B K' ∧ K'.1.2 < kk_137_0.1.2 := by
  intro K' h'
  simp only [List.mem_cons, List.not_mem_nil, or_false] at h'
  subst h'
  exact ⟨kk_191_0_t hxt, by decide +kernel⟩
theorem kk_137_0_t {l : Launch} {D : va_G} {dA : Nat → ClassId} {xa : List Nat} {xt : ee_X} {B : Nat} (hxt : xt[1]? = some (some ab_rnd)) : ab_CT ab_cls l D dA xa xt B kk_137_0 := ab_meth (Ks := [kk_191_0]) (hk := kk_137_0_k) (ht := kk_137_0_h) (stop := kk_137_0_s) (Ts := kk_137_0_T) (n := nat_lit 850) hxt ab_hnc ab_hcok ab_hcok2 (by decide +kernel) (kk_137_0_c hxt) (by decide +kernel) kk_137_0_e (List.all_eq_true.mp kk_137_0_r)
/- java/util/Arrays.fill -/
def kk_138_0 : ab_K := ((nat_lit 138, nat_lit 1), (nat_lit 0, nat_lit 0), ([.inr (.inl (nat_lit 1)), .inl (nat_lit 0, .ofNat (nat_lit 1), .ofNat (nat_lit 0))], ([(.negSucc (nat_lit 2147483647), .ofNat (nat_lit 2147483647))], [], [nat_lit 8], [], [])), [(none, ([(.negSucc (nat_lit 2147483647), .ofNat (nat_lit 2147483647))], [], [nat_lit 8], [], []), nat_lit 0, nat_lit 0)], nat_lit 18446708889337463040, nat_lit 7900)
def kk_138_0_T : List (ab_S × ab_Rk) := [((nat_lit 5, [.inr (.inl (nat_lit 1)), .inl (nat_lit 0, .ofNat (nat_lit 1), .ofNat (nat_lit 0)), .inl (nat_lit 1, .ofNat (nat_lit 1), .ofNat (nat_lit 0)), .inl (nat_lit 2, .ofNat (nat_lit 1), .ofNat (nat_lit 0))], [], ([(.negSucc (nat_lit 2147483647), .ofNat (nat_lit 2147483647)), (.ofNat (nat_lit 0), .ofNat (nat_lit 8)), (.ofNat (nat_lit 8), .ofNat (nat_lit 8))], [], [nat_lit 8], [], []), nat_lit 0, nat_lit 0), ((.negSucc (nat_lit 0), (nat_lit 1, .ofNat (nat_lit 1), .ofNat (nat_lit 0))), (.ofNat (nat_lit 1), (nat_lit 0, .ofNat (nat_lit 0), .ofNat (nat_lit 99))), (.ofNat (nat_lit 1), (nat_lit 0, .ofNat (nat_lit 0), .ofNat (nat_lit 0)))))]
def kk_138_0_s (pc : Nat) : Bool := bif Nat.blt pc (nat_lit 20) then (bif Nat.beq pc (nat_lit 5) then true else false) else (bif Nat.beq pc (nat_lit 20) then true else false)
def kk_138_0_h (pc : Nat) : List ab_Hn := []
def kk_138_0_k (pc : Nat) : Nat := nat_lit 0
theorem kk_138_0_e : ab_rn0 ab_cls kk_138_0.2.1.1 kk_138_0.2.1.2 kk_138_0.2.2.2.2.1 kk_138_0.2.2.2.2.2 [] kk_138_0_k kk_138_0_h kk_138_0.1.1 kk_138_0_s (ab_fin kk_138_0.2.2.1.2.1.length kk_138_0.2.2.1.2.2.2.1.length kk_138_0.1.1 kk_138_0.2.2.2.1 none kk_138_0_T) (nat_lit 1030) (ab_ent kk_138_0) = true := by decide +kernel
theorem kk_138_0_r : (kk_138_0_T.all fun T => ab_rn0 ab_cls kk_138_0.2.1.1 kk_138_0.2.1.2 kk_138_0.2.2.2.2.1 kk_138_0.2.2.2.2.2 [] kk_138_0_k kk_138_0_h kk_138_0.1.1 kk_138_0_s (ab_fin kk_138_0.2.2.1.2.1.length kk_138_0.2.2.1.2.2.2.1.length kk_138_0.1.1 kk_138_0.2.2.2.1 (some T.2) kk_138_0_T) (nat_lit 1030) T.1) = true := by decide +kernel
theorem kk_138_0_t {l : Launch} {D : va_G} {dA : Nat → ClassId} {xa : List Nat} {xt : ee_X} {B : Nat} (hxt : xt[1]? = some (some ab_rnd)) : ab_CT ab_cls l D dA xa xt B kk_138_0 := ab_meth (Ks := []) (hk := kk_138_0_k) (ht := kk_138_0_h) (stop := kk_138_0_s) (Ts := kk_138_0_T) (n := nat_lit 1030) hxt ab_hnc ab_hcok ab_hcok2 (by decide +kernel) (fun K' h' => by cases h') (by decide +kernel) kk_138_0_e (List.all_eq_true.mp kk_138_0_r)
/- java/util/Arrays.fill -/
def kk_138_1 : ab_K := ((nat_lit 138, nat_lit 1), (nat_lit 0, nat_lit 0), ([.inr (.inl (nat_lit 1)), .inl (nat_lit 0, .ofNat (nat_lit 1), .ofNat (nat_lit 0))], ([(.negSucc (nat_lit 2147483647), .ofNat (nat_lit 2147483647))], [], [nat_lit 16], [], [])), [(none, ([(.negSucc (nat_lit 2147483647), .ofNat (nat_lit 2147483647))], [], [nat_lit 16], [], []), nat_lit 0, nat_lit 0)], nat_lit 18446708889337528320, nat_lit 7900)
def kk_138_1_T : List (ab_S × ab_Rk) := [((nat_lit 5, [.inr (.inl (nat_lit 1)), .inl (nat_lit 0, .ofNat (nat_lit 1), .ofNat (nat_lit 0)), .inl (nat_lit 1, .ofNat (nat_lit 1), .ofNat (nat_lit 0)), .inl (nat_lit 2, .ofNat (nat_lit 1), .ofNat (nat_lit 0))], [], ([(.negSucc (nat_lit 2147483647), .ofNat (nat_lit 2147483647)), (.ofNat (nat_lit 0), .ofNat (nat_lit 4)), (.ofNat (nat_lit 4), .ofNat (nat_lit 4))], [], [nat_lit 16], [], []), nat_lit 0, nat_lit 0), ((.negSucc (nat_lit 0), (nat_lit 1, .ofNat (nat_lit 1), .ofNat (nat_lit 0))), (.ofNat (nat_lit 1), (nat_lit 0, .ofNat (nat_lit 0), .ofNat (nat_lit 99))), (.ofNat (nat_lit 1), (nat_lit 0, .ofNat (nat_lit 0), .ofNat (nat_lit 0)))))]
def kk_138_1_s (pc : Nat) : Bool := bif Nat.blt pc (nat_lit 20) then (bif Nat.beq pc (nat_lit 5) then true else false) else (bif Nat.beq pc (nat_lit 20) then true else false)
def kk_138_1_h (pc : Nat) : List ab_Hn := []
def kk_138_1_k (pc : Nat) : Nat := nat_lit 0
theorem kk_138_1_e : ab_rn0 ab_cls kk_138_1.2.1.1 kk_138_1.2.1.2 kk_138_1.2.2.2.2.1 kk_138_1.2.2.2.2.2 [] kk_138_1_k kk_138_1_h kk_138_1.1.1 kk_138_1_s (ab_fin kk_138_1.2.2.1.2.1.length kk_138_1.2.2.1.2.2.2.1.length kk_138_1.1.1 kk_138_1.2.2.2.1 none kk_138_1_T) (nat_lit 750) (ab_ent kk_138_1) = true := by decide +kernel
theorem kk_138_1_r : (kk_138_1_T.all fun T => ab_rn0 ab_cls kk_138_1.2.1.1 kk_138_1.2.1.2 kk_138_1.2.2.2.2.1 kk_138_1.2.2.2.2.2 [] kk_138_1_k kk_138_1_h kk_138_1.1.1 kk_138_1_s (ab_fin kk_138_1.2.2.1.2.1.length kk_138_1.2.2.1.2.2.2.1.length kk_138_1.1.1 kk_138_1.2.2.2.1 (some T.2) kk_138_1_T) (nat_lit 750) T.1) = true := by decide +kernel
theorem kk_138_1_t {l : Launch} {D : va_G} {dA : Nat → ClassId} {xa : List Nat} {xt : ee_X} {B : Nat} (hxt : xt[1]? = some (some ab_rnd)) : ab_CT ab_cls l D dA xa xt B kk_138_1 := ab_meth (Ks := []) (hk := kk_138_1_k) (ht := kk_138_1_h) (stop := kk_138_1_s) (Ts := kk_138_1_T) (n := nat_lit 750) hxt ab_hnc ab_hcok ab_hcok2 (by decide +kernel) (fun K' h' => by cases h') (by decide +kernel) kk_138_1_e (List.all_eq_true.mp kk_138_1_r)
