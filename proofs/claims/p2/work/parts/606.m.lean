/-! ===== methods, by program ===== -/
/- StoreBufferHeap$Reader.isLetter -/
def kk_235_0 : ab_K := ((nat_lit 235, nat_lit 2), (nat_lit 0, nat_lit 0), ([.inl (nat_lit 0, .ofNat (nat_lit 1), .ofNat (nat_lit 0))], ([(.negSucc (nat_lit 2147483647), .ofNat (nat_lit 2147483647))], [], [], [], [])), [(some (.inl (nat_lit 1, .ofNat (nat_lit 1), .ofNat (nat_lit 0))), ([(.negSucc (nat_lit 2147483647), .ofNat (nat_lit 2147483647)), (.ofNat (nat_lit 0), .ofNat (nat_lit 1))], [], [], [], []), nat_lit 0, nat_lit 0)], nat_lit 18446708889337462784, nat_lit 7900)
def kk_235_0_T : List (ab_S × ab_Rk) := []
def kk_235_0_s (pc : Nat) : Bool := bif Nat.beq pc (nat_lit 8) then true else false
def kk_235_0_h (pc : Nat) : List ab_Hn := []
def kk_235_0_k (pc : Nat) : Nat := nat_lit 0
theorem kk_235_0_e : ab_rn0 ab_cls kk_235_0.2.1.1 kk_235_0.2.1.2 kk_235_0.2.2.2.2.1 kk_235_0.2.2.2.2.2 [kk_69_0] kk_235_0_k kk_235_0_h kk_235_0.1.1 kk_235_0_s (ab_fin kk_235_0.2.2.1.2.1.length kk_235_0.2.2.1.2.2.2.1.length kk_235_0.1.1 kk_235_0.2.2.2.1 none kk_235_0_T) (nat_lit 90) (ab_ent kk_235_0) = true := by decide +kernel
theorem kk_235_0_r : (kk_235_0_T.all fun T => ab_rn0 ab_cls kk_235_0.2.1.1 kk_235_0.2.1.2 kk_235_0.2.2.2.2.1 kk_235_0.2.2.2.2.2 [kk_69_0] kk_235_0_k kk_235_0_h kk_235_0.1.1 kk_235_0_s (ab_fin kk_235_0.2.2.1.2.1.length kk_235_0.2.2.1.2.2.2.1.length kk_235_0.1.1 kk_235_0.2.2.2.1 (some T.2) kk_235_0_T) (nat_lit 90) T.1) = true := by decide +kernel
theorem kk_235_0_c {l : Launch} {D : va_G} {dA : Nat → ClassId} {xa : List Nat} {xt : ee_X} {B : Nat} (hxt : xt[1]? = some (some ab_rnd)) : ∀ K' ∈ ([kk_69_0] : List ab_K), ab_CT ab_cls l D dA xa xt B K' ∧ K'.1.2 < kk_235_0.1.2 := by
  intro K' h'
  simp only [List.mem_cons, List.not_mem_nil, or_false] at h'
  subst h'
  exact ⟨kk_69_0_t hxt, by decide +kernel⟩
theorem kk_235_0_t {l : Launch} {D : va_G} {dA : Nat → ClassId} {xa : List Nat} {xt : ee_X} {B : Nat} (hxt : xt[1]? = some (some ab_rnd)) : ab_CT ab_cls l D dA xa xt B kk_235_0 := ab_meth (Ks := [kk_69_0]) (hk := kk_235_0_k) (ht := kk_235_0_h) (stop := kk_235_0_s) (Ts := kk_235_0_T) (n := nat_lit 90) hxt ab_hnc ab_hcok ab_hcok2 (by decide +kernel) (kk_235_0_c hxt) (by decide +kernel) kk_235_0_e (List.all_eq_true.mp kk_235_0_r)
/- StoreBufferHeap$Reader.isDigit -/
def kk_237_0 : ab_K := ((nat_lit 237, nat_lit 2), (nat_lit 0, nat_lit 0), ([.inl (nat_lit 0, .ofNat (nat_lit 1), .ofNat (nat_lit 0))], ([(.negSucc (nat_lit 2147483647), .ofNat (nat_lit 2147483647))], [], [], [], [])), [(some (.inl (nat_lit 1, .ofNat (nat_lit 1), .ofNat (nat_lit 0))), ([(.negSucc (nat_lit 2147483647), .ofNat (nat_lit 2147483647)), (.ofNat (nat_lit 0), .ofNat (nat_lit 1))], [], [], [], []), nat_lit 0, nat_lit 0)], nat_lit 18446708889337462784, nat_lit 7900)
def kk_237_0_T : List (ab_S × ab_Rk) := []
def kk_237_0_s (pc : Nat) : Bool := bif Nat.beq pc (nat_lit 8) then true else false
def kk_237_0_h (pc : Nat) : List ab_Hn := []
def kk_237_0_k (pc : Nat) : Nat := nat_lit 0
theorem kk_237_0_e : ab_rn0 ab_cls kk_237_0.2.1.1 kk_237_0.2.1.2 kk_237_0.2.2.2.2.1 kk_237_0.2.2.2.2.2 [kk_69_0] kk_237_0_k kk_237_0_h kk_237_0.1.1 kk_237_0_s (ab_fin kk_237_0.2.2.1.2.1.length kk_237_0.2.2.1.2.2.2.1.length kk_237_0.1.1 kk_237_0.2.2.2.1 none kk_237_0_T) (nat_lit 90) (ab_ent kk_237_0) = true := by decide +kernel
theorem kk_237_0_r : (kk_237_0_T.all fun T => ab_rn0 ab_cls kk_237_0.2.1.1 kk_237_0.2.1.2 kk_237_0.2.2.2.2.1 kk_237_0.2.2.2.2.2 [kk_69_0] kk_237_0_k kk_237_0_h kk_237_0.1.1 kk_237_0_s (ab_fin kk_237_0.2.2.1.2.1.length kk_237_0.2.2.1.2.2.2.1.length kk_237_0.1.1 kk_237_0.2.2.2.1 (some T.2) kk_237_0_T) (nat_lit 90) T.1) = true := by decide +kernel
theorem kk_237_0_c {l : Launch} {D : va_G} {dA : Nat → ClassId} {xa : List Nat} {xt : ee_X} {B : Nat} (hxt : xt[1]? = some (some ab_rnd)) : ∀ K' ∈ ([kk_69_0] : List ab_K), ab_CT ab_cls l D dA xa xt B K' ∧ K'.1.2 < kk_237_0.1.2 := by
  intro K' h'
  simp only [List.mem_cons, List.not_mem_nil, or_false] at h'
  subst h'
  exact ⟨kk_69_0_t hxt, by decide +kernel⟩
theorem kk_237_0_t {l : Launch} {D : va_G} {dA : Nat → ClassId} {xa : List Nat} {xt : ee_X} {B : Nat} (hxt : xt[1]? = some (some ab_rnd)) : ab_CT ab_cls l D dA xa xt B kk_237_0 := ab_meth (Ks := [kk_69_0]) (hk := kk_237_0_k) (ht := kk_237_0_h) (stop := kk_237_0_s) (Ts := kk_237_0_T) (n := nat_lit 90) hxt ab_hnc ab_hcok ab_hcok2 (by decide +kernel) (kk_237_0_c hxt) (by decide +kernel) kk_237_0_e (List.all_eq_true.mp kk_237_0_r)
/- StoreBufferHeap$Reader.byteAt -/
def kk_221_0 : ab_K := ((nat_lit 221, nat_lit 2), (nat_lit 0, nat_lit 0), ([.inr (.inl (nat_lit 1)), .inl (nat_lit 0, .ofNat (nat_lit 1), .ofNat (nat_lit 0))], ([(.negSucc (nat_lit 2147483647), .ofNat (nat_lit 2147483647))], [], [nat_lit 3], [], [])), [(some (.inl (nat_lit 1, .ofNat (nat_lit 1), .ofNat (nat_lit 0))), ([(.negSucc (nat_lit 2147483647), .ofNat (nat_lit 2147483647)), (.negSucc (nat_lit 0), .ofNat (nat_lit 255))], [], [nat_lit 3], [], []), nat_lit 0, nat_lit 0)], nat_lit 18446708889337462784, nat_lit 7900)
def kk_221_0_T : List (ab_S × ab_Rk) := []
def kk_221_0_s (pc : Nat) : Bool := bif Nat.beq pc (nat_lit 24) then true else false
def kk_221_0_h (pc : Nat) : List ab_Hn := []
def kk_221_0_k (pc : Nat) : Nat := nat_lit 0
theorem kk_221_0_e : ab_rn0 ab_cls kk_221_0.2.1.1 kk_221_0.2.1.2 kk_221_0.2.2.2.2.1 kk_221_0.2.2.2.2.2 [kk_69_0] kk_221_0_k kk_221_0_h kk_221_0.1.1 kk_221_0_s (ab_fin kk_221_0.2.2.1.2.1.length kk_221_0.2.2.1.2.2.2.1.length kk_221_0.1.1 kk_221_0.2.2.2.1 none kk_221_0_T) (nat_lit 200) (ab_ent kk_221_0) = true := by decide +kernel
theorem kk_221_0_r : (kk_221_0_T.all fun T => ab_rn0 ab_cls kk_221_0.2.1.1 kk_221_0.2.1.2 kk_221_0.2.2.2.2.1 kk_221_0.2.2.2.2.2 [kk_69_0] kk_221_0_k kk_221_0_h kk_221_0.1.1 kk_221_0_s (ab_fin kk_221_0.2.2.1.2.1.length kk_221_0.2.2.1.2.2.2.1.length kk_221_0.1.1 kk_221_0.2.2.2.1 (some T.2) kk_221_0_T) (nat_lit 200) T.1) = true := by decide +kernel
theorem kk_221_0_c {l : Launch} {D : va_G} {dA : Nat → ClassId} {xa : List Nat} {xt : ee_X} {B : Nat} (hxt : xt[1]? = some (some ab_rnd)) : ∀ K' ∈ ([kk_69_0] : List ab_K), ab_CT ab_cls l D dA xa xt B K' ∧ K'.1.2 < kk_221_0.1.2 := by
  intro K' h'
  simp only [List.mem_cons, List.not_mem_nil, or_false] at h'
  subst h'
  exact ⟨kk_69_0_t hxt, by decide +kernel⟩
theorem kk_221_0_t {l : Launch} {D : va_G} {dA : Nat → ClassId} {xa : List Nat} {xt : ee_X} {B : Nat} (hxt : xt[1]? = some (some ab_rnd)) : ab_CT ab_cls l D dA xa xt B kk_221_0 := ab_meth (Ks := [kk_69_0]) (hk := kk_221_0_k) (ht := kk_221_0_h) (stop := kk_221_0_s) (Ts := kk_221_0_T) (n := nat_lit 200) hxt ab_hnc ab_hcok ab_hcok2 (by decide +kernel) (kk_221_0_c hxt) (by decide +kernel) kk_221_0_e (List.all_eq_true.mp kk_221_0_r)
/- StoreBufferHeap$Reader.skipBlanks -/
def kk_234_0 : ab_K := ((nat_lit 234, nat_lit 3), (nat_lit 0, nat_lit 0), ([.inr (.inl (nat_lit 1))], ([], [], [nat_lit 3], [], [])), [(none, ([], [], [nat_lit 3], [], []), nat_lit 0, nat_lit 0)], nat_lit 18446708889337462792, nat_lit 7900)
def kk_234_0_T : List (ab_S × ab_Rk) := [((nat_lit 0, [.inr (.inl (nat_lit 1))], [], ([(.ofNat (nat_lit 1), .ofNat (nat_lit 400)), (.ofNat (nat_lit 1), .ofNat (nat_lit 400))], [(nat_lit 1, nat_lit 0, .ofNat (nat_lit 0))], [nat_lit 3, nat_lit 1], [(nat_lit 0, (nat_lit 0, nat_lit 6, .ofNat (nat_lit 0), .ofNat (nat_lit 0)), .inl (nat_lit 0, .ofNat (nat_lit 1), .ofNat (nat_lit 0))), (nat_lit 0, (nat_lit 0, nat_lit 2, .ofNat (nat_lit 0), .ofNat (nat_lit 0)), .inr (.inl (nat_lit 3))), (nat_lit 1, (nat_lit 0, nat_lit 1, .ofNat (nat_lit 0), .ofNat (nat_lit 0)), .inl (nat_lit 1, .ofNat (nat_lit 1), .ofNat (nat_lit 0)))], []), nat_lit 0, nat_lit 0), ((.negSucc (nat_lit 0), (nat_lit 0, .ofNat (nat_lit 1), .ofNat (nat_lit 0))), (.ofNat (nat_lit 1), (nat_lit 0, .ofNat (nat_lit 0), .ofNat (nat_lit 99))), (.ofNat (nat_lit 1), (nat_lit 0, .ofNat (nat_lit 0), .ofNat (nat_lit 0)))))]
def kk_234_0_s (pc : Nat) : Bool := bif Nat.blt pc (nat_lit 53) then (bif Nat.beq pc (nat_lit 0) then true else false) else (bif Nat.beq pc (nat_lit 53) then true else false)
def kk_234_0_h (pc : Nat) : List ab_Hn := bif Nat.beq pc (nat_lit 0) then [(nat_lit 4, ((nat_lit 0, nat_lit 0), []), nat_lit 6, .ofNat (nat_lit 0), ((nat_lit 0, nat_lit 0), [])), (nat_lit 4, ((nat_lit 0, nat_lit 0), []), nat_lit 2, .ofNat (nat_lit 0), ((nat_lit 0, nat_lit 0), [])), (nat_lit 4, ((nat_lit 0, nat_lit 0), [(nat_lit 0, nat_lit 2, .ofNat (nat_lit 0), .ofNat (nat_lit 0))]), nat_lit 1, .ofNat (nat_lit 0), ((nat_lit 0, nat_lit 0), []))] else []
def kk_234_0_k (pc : Nat) : Nat := nat_lit 0
theorem kk_234_0_e : ab_rn0 ab_cls kk_234_0.2.1.1 kk_234_0.2.1.2 kk_234_0.2.2.2.2.1 kk_234_0.2.2.2.2.2 [kk_221_0] kk_234_0_k kk_234_0_h kk_234_0.1.1 kk_234_0_s (ab_fin kk_234_0.2.2.1.2.1.length kk_234_0.2.2.1.2.2.2.1.length kk_234_0.1.1 kk_234_0.2.2.2.1 none kk_234_0_T) (nat_lit 690) (ab_ent kk_234_0) = true := by decide +kernel
theorem kk_234_0_r : (kk_234_0_T.all fun T => ab_rn0 ab_cls kk_234_0.2.1.1 kk_234_0.2.1.2 kk_234_0.2.2.2.2.1 kk_234_0.2.2.2.2.2 [kk_221_0] kk_234_0_k kk_234_0_h kk_234_0.1.1 kk_234_0_s (ab_fin kk_234_0.2.2.1.2.1.length kk_234_0.2.2.1.2.2.2.1.length kk_234_0.1.1 kk_234_0.2.2.2.1 (some T.2) kk_234_0_T) (nat_lit 690) T.1) = true := by decide +kernel
theorem kk_234_0_c {l : Launch} {D : va_G} {dA : Nat → ClassId} {xa : List Nat} {xt : ee_X} {B : Nat} (hxt : xt[1]? = some (some ab_rnd)) : ∀ K' ∈ ([kk_221_0] : List ab_K), ab_CT ab_cls l D dA xa xt B K' ∧ K'.1.2 < kk_234_0.1.2 := by
  intro K' h'
  simp only [List.mem_cons, List.not_mem_nil, or_false] at h'
  subst h'
  exact ⟨kk_221_0_t hxt, by decide +kernel⟩
theorem kk_234_0_t {l : Launch} {D : va_G} {dA : Nat → ClassId} {xa : List Nat} {xt : ee_X} {B : Nat} (hxt : xt[1]? = some (some ab_rnd)) : ab_CT ab_cls l D dA xa xt B kk_234_0 := ab_meth (Ks := [kk_221_0]) (hk := kk_234_0_k) (ht := kk_234_0_h) (stop := kk_234_0_s) (Ts := kk_234_0_T) (n := nat_lit 690) hxt ab_hnc ab_hcok ab_hcok2 (by decide +kernel) (kk_234_0_c hxt) (by decide +kernel) kk_234_0_e (List.all_eq_true.mp kk_234_0_r)
/- StoreBufferHeap$Reader.skipLetters -/
def kk_236_0 : ab_K := ((nat_lit 236, nat_lit 3), (nat_lit 0, nat_lit 0), ([.inr (.inl (nat_lit 1))], ([], [], [nat_lit 3], [], [])), [(none, ([], [], [nat_lit 3], [], []), nat_lit 0, nat_lit 0)], nat_lit 18446708889337462792, nat_lit 7900)
def kk_236_0_T : List (ab_S × ab_Rk) := [((nat_lit 0, [.inr (.inl (nat_lit 1))], [], ([(.ofNat (nat_lit 1), .ofNat (nat_lit 400)), (.ofNat (nat_lit 1), .ofNat (nat_lit 400))], [(nat_lit 1, nat_lit 0, .ofNat (nat_lit 0))], [nat_lit 3, nat_lit 1], [(nat_lit 0, (nat_lit 0, nat_lit 6, .ofNat (nat_lit 0), .ofNat (nat_lit 0)), .inl (nat_lit 0, .ofNat (nat_lit 1), .ofNat (nat_lit 0))), (nat_lit 0, (nat_lit 0, nat_lit 2, .ofNat (nat_lit 0), .ofNat (nat_lit 0)), .inr (.inl (nat_lit 3))), (nat_lit 1, (nat_lit 0, nat_lit 1, .ofNat (nat_lit 0), .ofNat (nat_lit 0)), .inl (nat_lit 1, .ofNat (nat_lit 1), .ofNat (nat_lit 0)))], []), nat_lit 0, nat_lit 0), ((.negSucc (nat_lit 0), (nat_lit 0, .ofNat (nat_lit 1), .ofNat (nat_lit 0))), (.ofNat (nat_lit 1), (nat_lit 0, .ofNat (nat_lit 0), .ofNat (nat_lit 99))), (.ofNat (nat_lit 1), (nat_lit 0, .ofNat (nat_lit 0), .ofNat (nat_lit 0)))))]
def kk_236_0_s (pc : Nat) : Bool := bif Nat.blt pc (nat_lit 41) then (bif Nat.beq pc (nat_lit 0) then true else false) else (bif Nat.beq pc (nat_lit 41) then true else false)
def kk_236_0_h (pc : Nat) : List ab_Hn := bif Nat.beq pc (nat_lit 0) then [(nat_lit 4, ((nat_lit 0, nat_lit 0), []), nat_lit 6, .ofNat (nat_lit 0), ((nat_lit 0, nat_lit 0), [])), (nat_lit 4, ((nat_lit 0, nat_lit 0), []), nat_lit 2, .ofNat (nat_lit 0), ((nat_lit 0, nat_lit 0), [])), (nat_lit 4, ((nat_lit 0, nat_lit 0), [(nat_lit 0, nat_lit 2, .ofNat (nat_lit 0), .ofNat (nat_lit 0))]), nat_lit 1, .ofNat (nat_lit 0), ((nat_lit 0, nat_lit 0), []))] else []
def kk_236_0_k (pc : Nat) : Nat := nat_lit 0
theorem kk_236_0_e : ab_rn0 ab_cls kk_236_0.2.1.1 kk_236_0.2.1.2 kk_236_0.2.2.2.2.1 kk_236_0.2.2.2.2.2 [kk_221_0, kk_235_0] kk_236_0_k kk_236_0_h kk_236_0.1.1 kk_236_0_s (ab_fin kk_236_0.2.2.1.2.1.length kk_236_0.2.2.1.2.2.2.1.length kk_236_0.1.1 kk_236_0.2.2.2.1 none kk_236_0_T) (nat_lit 430) (ab_ent kk_236_0) = true := by decide +kernel
theorem kk_236_0_r : (kk_236_0_T.all fun T => ab_rn0 ab_cls kk_236_0.2.1.1 kk_236_0.2.1.2 kk_236_0.2.2.2.2.1 kk_236_0.2.2.2.2.2 [kk_221_0, kk_235_0] kk_236_0_k kk_236_0_h kk_236_0.1.1 kk_236_0_s (ab_fin kk_236_0.2.2.1.2.1.length kk_236_0.2.2.1.2.2.2.1.length kk_236_0.1.1 kk_236_0.2.2.2.1 (some T.2) kk_236_0_T) (nat_lit 430) T.1) = true := by decide +kernel
theorem kk_236_0_c {l : Launch} {D : va_G} {dA : Nat → ClassId} {xa : List Nat} {xt : ee_X} {B : Nat} (hxt : xt[1]? = some (some ab_rnd)) : ∀ K' ∈ ([kk_221_0, kk_235_0] : List ab_K), ab_CT ab_cls l D dA xa xt B K' ∧ K'.1.2 < kk_236_0.1.2 := by
  intro K' h'
  simp only [List.mem_cons, List.not_mem_nil, or_false] at h'
  rcases h' with rfl | rfl
  · exact ⟨kk_221_0_t hxt, by decide +kernel⟩
  · exact ⟨kk_235_0_t hxt, by decide +kernel⟩
theorem kk_236_0_t {l : Launch} {D : va_G} {dA : Nat → ClassId} {xa : List Nat} {xt : ee_X} {B : Nat} (hxt : xt[1]? = some (some ab_rnd)) : ab_CT ab_cls l D dA xa xt B kk_236_0 := ab_meth (Ks := [kk_221_0, kk_235_0]) (hk := kk_236_0_k) (ht := kk_236_0_h) (stop := kk_236_0_s) (Ts := kk_236_0_T) (n := nat_lit 430) hxt ab_hnc ab_hcok ab_hcok2 (by decide +kernel) (kk_236_0_c hxt) (by decide +kernel) kk_236_0_e (List.all_eq_true.mp kk_236_0_r)
/- StoreBufferHeap$Reader.blameText -/
def kk_172_0 : ab_K := ((nat_lit 172, nat_lit 1), (nat_lit 0, nat_lit 0), ([.inr (.inl (nat_lit 1))], ([], [], [nat_lit 3], [], [])), [(none, ([], [], [nat_lit 3], [], []), nat_lit 0, nat_lit 0)], nat_lit 18446708889337462786, nat_lit 7900)
def kk_172_0_T : List (ab_S × ab_Rk) := []
def kk_172_0_s (pc : Nat) : Bool := bif Nat.beq pc (nat_lit 19) then true else false
def kk_172_0_h (pc : Nat) : List ab_Hn := []
def kk_172_0_k (pc : Nat) : Nat := nat_lit 0
theorem kk_172_0_e : ab_rn0 ab_cls kk_172_0.2.1.1 kk_172_0.2.1.2 kk_172_0.2.2.2.2.1 kk_172_0.2.2.2.2.2 [] kk_172_0_k kk_172_0_h kk_172_0.1.1 kk_172_0_s (ab_fin kk_172_0.2.2.1.2.1.length kk_172_0.2.2.1.2.2.2.1.length kk_172_0.1.1 kk_172_0.2.2.2.1 none kk_172_0_T) (nat_lit 140) (ab_ent kk_172_0) = true := by decide +kernel
theorem kk_172_0_r : (kk_172_0_T.all fun T => ab_rn0 ab_cls kk_172_0.2.1.1 kk_172_0.2.1.2 kk_172_0.2.2.2.2.1 kk_172_0.2.2.2.2.2 [] kk_172_0_k kk_172_0_h kk_172_0.1.1 kk_172_0_s (ab_fin kk_172_0.2.2.1.2.1.length kk_172_0.2.2.1.2.2.2.1.length kk_172_0.1.1 kk_172_0.2.2.2.1 (some T.2) kk_172_0_T) (nat_lit 140) T.1) = true := by decide +kernel
theorem kk_172_0_t {l : Launch} {D : va_G} {dA : Nat → ClassId} {xa : List Nat} {xt : ee_X} {B : Nat} (hxt : xt[1]? = some (some ab_rnd)) : ab_CT ab_cls l D dA xa xt B kk_172_0 := ab_meth (Ks := []) (hk := kk_172_0_k) (ht := kk_172_0_h) (stop := kk_172_0_s) (Ts := kk_172_0_T) (n := nat_lit 140) hxt ab_hnc ab_hcok ab_hcok2 (by decide +kernel) (fun K' h' => by cases h') (by decide +kernel) kk_172_0_e (List.all_eq_true.mp kk_172_0_r)
/- StoreBufferHeap$Reader.blame -/
def kk_144_0 : ab_K := ((nat_lit 144, nat_lit 1), (nat_lit 0, nat_lit 0), ([.inr (.inl (nat_lit 1)), .inl (nat_lit 0, .ofNat (nat_lit 1), .ofNat (nat_lit 0)), .inl (nat_lit 1, .ofNat (nat_lit 1), .ofNat (nat_lit 0))], ([(.ofNat (nat_lit 0), .ofNat (nat_lit 3)), (.ofNat (nat_lit 0), .ofNat (nat_lit 400))], [], [nat_lit 3], [], [])), [(none, ([(.ofNat (nat_lit 0), .ofNat (nat_lit 3)), (.ofNat (nat_lit 0), .ofNat (nat_lit 400))], [], [nat_lit 3], [], []), nat_lit 0, nat_lit 0)], nat_lit 18446708889337462786, nat_lit 7900)
def kk_144_0_T : List (ab_S × ab_Rk) := []
def kk_144_0_s (pc : Nat) : Bool := bif Nat.beq pc (nat_lit 26) then true else false
def kk_144_0_h (pc : Nat) : List ab_Hn := []
def kk_144_0_k (pc : Nat) : Nat := nat_lit 0
theorem kk_144_0_e : ab_rn0 ab_cls kk_144_0.2.1.1 kk_144_0.2.1.2 kk_144_0.2.2.2.2.1 kk_144_0.2.2.2.2.2 [] kk_144_0_k kk_144_0_h kk_144_0.1.1 kk_144_0_s (ab_fin kk_144_0.2.2.1.2.1.length kk_144_0.2.2.1.2.2.2.1.length kk_144_0.1.1 kk_144_0.2.2.2.1 none kk_144_0_T) (nat_lit 170) (ab_ent kk_144_0) = true := by decide +kernel
theorem kk_144_0_r : (kk_144_0_T.all fun T => ab_rn0 ab_cls kk_144_0.2.1.1 kk_144_0.2.1.2 kk_144_0.2.2.2.2.1 kk_144_0.2.2.2.2.2 [] kk_144_0_k kk_144_0_h kk_144_0.1.1 kk_144_0_s (ab_fin kk_144_0.2.2.1.2.1.length kk_144_0.2.2.1.2.2.2.1.length kk_144_0.1.1 kk_144_0.2.2.2.1 (some T.2) kk_144_0_T) (nat_lit 170) T.1) = true := by decide +kernel
theorem kk_144_0_t {l : Launch} {D : va_G} {dA : Nat → ClassId} {xa : List Nat} {xt : ee_X} {B : Nat} (hxt : xt[1]? = some (some ab_rnd)) : ab_CT ab_cls l D dA xa xt B kk_144_0 := ab_meth (Ks := []) (hk := kk_144_0_k) (ht := kk_144_0_h) (stop := kk_144_0_s) (Ts := kk_144_0_T) (n := nat_lit 170) hxt ab_hnc ab_hcok ab_hcok2 (by decide +kernel) (fun K' h' => by cases h') (by decide +kernel) kk_144_0_e (List.all_eq_true.mp kk_144_0_r)
