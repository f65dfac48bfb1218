
/-- an int by its number -/
def iI (z : Int) : Int32 := Int32.ofInt z
theorem iI_toInt {z : Int} (h : -2147483648 ≤ z ∧ z < 2147483648) : (iI z).toInt = z := Int32.toInt_ofInt_of_le (by omega) (by omega)
theorem iI_add (a b : Int) : iI a + iI b = iI (a + b) := by
  apply Int32.toBitVec.inj
  simp [iI, Int32.toBitVec_add, BitVec.ofInt_add]
theorem iI_mul (a b : Int) : iI a * iI b = iI (a * b) := by
  apply Int32.toBitVec.inj
  simp [iI, Int32.toBitVec_mul, BitVec.ofInt_mul]
theorem iI_neg (a : Int) : - iI a = iI (- a) := Int32.neg_ofInt
theorem iI_sub (a b : Int) : iI a - iI b = iI (a - b) := by
  rw [Int32.sub_eq_add_neg, iI_neg, iI_add, Int.sub_eq_add_neg]
theorem iI_lt {a b : Int} (ha : -2147483648 ≤ a ∧ a < 2147483648) (hb : -2147483648 ≤ b ∧ b < 2147483648) : iI a < iI b ↔ a < b := by rw [Int32.lt_iff_toInt_lt, iI_toInt ha, iI_toInt hb]
theorem iI_le {a b : Int} (ha : -2147483648 ≤ a ∧ a < 2147483648) (hb : -2147483648 ≤ b ∧ b < 2147483648) : iI a ≤ iI b ↔ a ≤ b := by rw [Int32.le_iff_toInt_le, iI_toInt ha, iI_toInt hb]
theorem iI_eq {a b : Int} (ha : -2147483648 ≤ a ∧ a < 2147483648) (hb : -2147483648 ≤ b ∧ b < 2147483648) : iI a = iI b ↔ a = b := by
  refine ⟨fun h => ?_, fun h => by rw [h]⟩
  have := congrArg Int32.toInt h
  rwa [iI_toInt ha, iI_toInt hb] at this
theorem iI_0 : iI 0 = 0 := by decide
theorem iI_nI (n : Nat) : nI n = iI n := by unfold nI iI; rw [Int32.ofInt_eq_ofNat]
theorem iI_of (x : Int32) : ∃ z : Int, (-2147483648 ≤ z ∧ z < 2147483648) ∧ x = iI z := ⟨x.toInt, ⟨by have := Int32.le_toInt x; omega, by have := Int32.toInt_lt x; omega⟩, (Int32.ofInt_toInt x).symm⟩
theorem iI_div {a b : Int} (ha : 0 ≤ a ∧ a < 2147483648) (hb : 0 < b ∧ b < 2147483648) : iI a / iI b = iI (a / b) := by
  have h1 : a = (a.toNat : Int) := by omega
  have h2 : b = (b.toNat : Int) := by omega
  rw [h1, h2, ← iI_nI, ← iI_nI, pk_div (by omega) (by omega) (by omega), iI_nI]
  congr 1
theorem iI_rem {a b : Int} (ha : 0 ≤ a ∧ a < 2147483648) (hb : 0 < b ∧ b < 2147483648) : iI a - iI a / iI b * iI b = iI (a % b) := by
  rw [iI_div ha hb, iI_mul, iI_sub]
  congr 1
  have := Int.emod_add_mul_ediv a b
  rw [Int.mul_comm] at this
  omega
theorem iI_clamp {z : Int} (h : 0 ≤ z ∧ z < 2147483648) : (iI z).toNatClampNeg = z.toNat := Int32.toNatClampNeg_ofInt_of_le (by omega) (by omega)
theorem iI_in {z : Int} {n : Nat} (h0 : 0 ≤ z) (h1 : z < n) (hn : n < 2147483648) : vp_in (iI z) n := by
  rw [vp_in_iff, iI_toInt (by omega)]
  omega
theorem iI_upd (g : Nat → Int) (k : Nat) (x : Int) : upd (fun i => iI (g i)) k (iI x) = fun i => iI (va_up g k x i) := by
  funext i
  by_cases h : i = k
  · subst h; rw [pk_us, va_up_self]
  · rw [pk_un h, va_up_ne _ _ h]
theorem iI_byte {x : Int} (h : -128 ≤ x ∧ x < 128) : vp_nar .byte (iI x) = iI x := by
  rw [vp_nar_byte]
  apply Int32.toInt.inj
  unfold iI
  rw [Int32.toInt8_ofInt, Int8.toInt_toInt32, Int8.toInt_ofInt_of_le (by omega) (by omega), Int32.toInt_ofInt_of_le (by omega) (by omega)]
theorem iI_bool {x : Int} (h : x = 0 ∨ x = 1) : narrow .boolean (.int (iI x)) = .int (iI x) ∧ fits .boolean (.int (iI x)) = true ∧ vp_nar .boolean (iI x) = iI x := by
  rcases h with rfl | rfl <;> exact ⟨by decide, by decide, by decide⟩
section INTS
variable {own : String} {cc : ByteArray} {nL : Nat} {rt : Option FieldType} {ini : Bool} {d mc ms : Nat} {Po : AT} {X : XT} {ce sl pc : Nat} {L : List Nat} {f : Nat → AC} {lv : List (Option Value)} {st : List Value}
theorem Cx.ic (C : Cx own cc nL rt ini d mc ms Po X) {n : Int} (dg : decode cc pc = .ok (.iconst n, 1))
    (k : X ce sl L f (pc + 1) lv (.int (iI n) :: st)) : X ce sl L f pc lv (st) := C.iconst dg rfl k
theorem Cx.bi (C : Cx own cc nL rt ini d mc ms Po X) {n : Int} (dg : decode cc pc = .ok (.bipush n, 2)) (hv : (Int8.ofInt n).toInt32 = iI n)
    (k : X ce sl L f (pc + 2) lv (.int (iI n) :: st)) : X ce sl L f pc lv (st) := C.bipush dg hv k
theorem Cx.si (C : Cx own cc nL rt ini d mc ms Po X) {n : Int} (dg : decode cc pc = .ok (.sipush n, 3)) (hv : (Int16.ofInt n).toInt32 = iI n)
    (k : X ce sl L f (pc + 3) lv (.int (iI n) :: st)) : X ce sl L f pc lv (st) := C.sipush dg hv k
theorem Cx.ldz (C : Cx own cc nL rt ini d mc ms Po X) {i : Nat} {v : Int32} {n : Int} (dg : decode cc pc = .ok (.ldc i, 2)) (hw : Cond.constant own i v ∈ Om) (hv : v = iI n)
    (k : X ce sl L f (pc + 2) lv (.int (iI n) :: st)) : X ce sl L f pc lv (st) := C.ldci dg hw (hv ▸ k)
theorem Cx.iaddI (C : Cx own cc nL rt ini d mc ms Po X) {a b : Int} (dg : decode cc pc = .ok (.iadd, 1))
    (k : X ce sl L f (pc + 1) lv (.int (iI (a + b)) :: st)) : X ce sl L f pc lv (.int (iI b) :: .int (iI a) :: st) := C.iadd dg (by rw [iI_add]; exact k)
theorem Cx.isubI (C : Cx own cc nL rt ini d mc ms Po X) {a b : Int} (dg : decode cc pc = .ok (.isub, 1))
    (k : X ce sl L f (pc + 1) lv (.int (iI (a - b)) :: st)) : X ce sl L f pc lv (.int (iI b) :: .int (iI a) :: st) := C.isub dg (by rw [iI_sub]; exact k)
theorem Cx.imulI (C : Cx own cc nL rt ini d mc ms Po X) {a b : Int} (dg : decode cc pc = .ok (.imul, 1))
    (k : X ce sl L f (pc + 1) lv (.int (iI (a * b)) :: st)) : X ce sl L f pc lv (.int (iI b) :: .int (iI a) :: st) := C.imul dg (by rw [iI_mul]; exact k)
theorem Cx.idivI (C : Cx own cc nL rt ini d mc ms Po X) {a b : Int} (dg : decode cc pc = .ok (.idiv, 1)) (ha : 0 ≤ a ∧ a < 2147483648) (hb : 0 < b ∧ b < 2147483648)
    (k : X ce sl L f (pc + 1) lv (.int (iI (a / b)) :: st)) : X ce sl L f pc lv (.int (iI b) :: .int (iI a) :: st) := C.idiv dg (fun h => by rw [← iI_0, iI_eq (by omega) (by omega)] at h; omega) (by rw [iI_div ha hb]; exact k)
theorem Cx.iremI (C : Cx own cc nL rt ini d mc ms Po X) {a b : Int} (dg : decode cc pc = .ok (.irem, 1)) (ha : 0 ≤ a ∧ a < 2147483648) (hb : 0 < b ∧ b < 2147483648)
    (k : X ce sl L f (pc + 1) lv (.int (iI (a % b)) :: st)) : X ce sl L f pc lv (.int (iI b) :: .int (iI a) :: st) := C.irem dg (fun h => by rw [← iI_0, iI_eq (by omega) (by omega)] at h; omega) (by rw [iI_rem ha hb]; exact k)
theorem Cx.topI (C : Cx own cc nL rt ini d mc ms Po X) {a b : Int} (h : a = b) (k : X ce sl L f pc lv (.int (iI b) :: st)) : X ce sl L f pc lv (.int (iI a) :: st) := h ▸ k
theorem Cx.topi (C : Cx own cc nL rt ini d mc ms Po X) {a b : Int32} (h : a = b) (k : X ce sl L f pc lv (.int b :: st)) : X ce sl L f pc lv (.int a :: st) := h ▸ k
theorem Cx.iincI (C : Cx own cc nL rt ini d mc ms Po X) {j : Nat} {n a : Int} (dg : decode cc pc = .ok (.iinc j n, 3)) (hv : lv[j]? = some (some (.int (iI a)))) (hn : j < nL) (hw : nw lv j = true)
    (k : X ce sl L f (pc + 3) (lv.set j (some (.int (iI (a + n))))) st) : X ce sl L f pc lv st := C.iinc dg hv (iI_add a n) hn hw k
theorem Cx.if_eqI (C : Cx own cc nL rt ini d mc ms Po X) {a : Int} {off : Int} {tgt : Nat} (dg : decode cc pc = .ok (.ifCond .eq off, 3)) (ht : (pc : Int) + off = (tgt : Int)) (ha : -2147483648 ≤ a ∧ a < 2147483648)
    (kt : a = 0 → X ce sl L f tgt lv st) (kf : ¬ a = 0 → X ce sl L f (pc + 3) lv st) : X ce sl L f pc lv (.int (iI a) :: st) := by
  have hz : (-2147483648 : Int) ≤ 0 ∧ (0 : Int) < 2147483648 := by omega
  exact C.if_eq dg ht (fun h => kt (by rw [← iI_0, iI_eq ha hz] at h; exact h)) (fun h => kf (by rw [← iI_0, iI_eq ha hz] at h; exact h))
theorem Cx.icmp_eqI (C : Cx own cc nL rt ini d mc ms Po X) {a b : Int} {off : Int} {tgt : Nat} (dg : decode cc pc = .ok (.if_icmp .eq off, 3)) (ht : (pc : Int) + off = (tgt : Int)) (ha : -2147483648 ≤ a ∧ a < 2147483648) (hb : -2147483648 ≤ b ∧ b < 2147483648)
    (kt : a = b → X ce sl L f tgt lv st) (kf : ¬ a = b → X ce sl L f (pc + 3) lv st) : X ce sl L f pc lv (.int (iI b) :: .int (iI a) :: st) := by
  exact C.icmp_eq dg ht (fun h => kt (by rw [iI_eq ha hb] at h; exact h)) (fun h => kf (by rw [iI_eq ha hb] at h; exact h))
theorem Cx.if_neI (C : Cx own cc nL rt ini d mc ms Po X) {a : Int} {off : Int} {tgt : Nat} (dg : decode cc pc = .ok (.ifCond .ne off, 3)) (ht : (pc : Int) + off = (tgt : Int)) (ha : -2147483648 ≤ a ∧ a < 2147483648)
    (kt : ¬ a = 0 → X ce sl L f tgt lv st) (kf : a = 0 → X ce sl L f (pc + 3) lv st) : X ce sl L f pc lv (.int (iI a) :: st) := by
  have hz : (-2147483648 : Int) ≤ 0 ∧ (0 : Int) < 2147483648 := by omega
  exact C.if_ne dg ht (fun h => kt (by rw [← iI_0, iI_eq ha hz] at h; exact h)) (fun h => kf (by rw [← iI_0, iI_eq ha hz] at h; exact h))
theorem Cx.icmp_neI (C : Cx own cc nL rt ini d mc ms Po X) {a b : Int} {off : Int} {tgt : Nat} (dg : decode cc pc = .ok (.if_icmp .ne off, 3)) (ht : (pc : Int) + off = (tgt : Int)) (ha : -2147483648 ≤ a ∧ a < 2147483648) (hb : -2147483648 ≤ b ∧ b < 2147483648)
    (kt : ¬ a = b → X ce sl L f tgt lv st) (kf : a = b → X ce sl L f (pc + 3) lv st) : X ce sl L f pc lv (.int (iI b) :: .int (iI a) :: st) := by
  exact C.icmp_ne dg ht (fun h => kt (by rw [iI_eq ha hb] at h; exact h)) (fun h => kf (by rw [iI_eq ha hb] at h; exact h))
theorem Cx.if_ltI (C : Cx own cc nL rt ini d mc ms Po X) {a : Int} {off : Int} {tgt : Nat} (dg : decode cc pc = .ok (.ifCond .lt off, 3)) (ht : (pc : Int) + off = (tgt : Int)) (ha : -2147483648 ≤ a ∧ a < 2147483648)
    (kt : a < 0 → X ce sl L f tgt lv st) (kf : ¬ a < 0 → X ce sl L f (pc + 3) lv st) : X ce sl L f pc lv (.int (iI a) :: st) := by
  have hz : (-2147483648 : Int) ≤ 0 ∧ (0 : Int) < 2147483648 := by omega
  exact C.if_lt dg ht (fun h => kt (by rw [← iI_0, iI_lt ha hz] at h; exact h)) (fun h => kf (by rw [← iI_0, iI_lt ha hz] at h; exact h))
theorem Cx.icmp_ltI (C : Cx own cc nL rt ini d mc ms Po X) {a b : Int} {off : Int} {tgt : Nat} (dg : decode cc pc = .ok (.if_icmp .lt off, 3)) (ht : (pc : Int) + off = (tgt : Int)) (ha : -2147483648 ≤ a ∧ a < 2147483648) (hb : -2147483648 ≤ b ∧ b < 2147483648)
    (kt : a < b → X ce sl L f tgt lv st) (kf : ¬ a < b → X ce sl L f (pc + 3) lv st) : X ce sl L f pc lv (.int (iI b) :: .int (iI a) :: st) := by
  exact C.icmp_lt dg ht (fun h => kt (by rw [iI_lt ha hb] at h; exact h)) (fun h => kf (by rw [iI_lt ha hb] at h; exact h))
theorem Cx.if_geI (C : Cx own cc nL rt ini d mc ms Po X) {a : Int} {off : Int} {tgt : Nat} (dg : decode cc pc = .ok (.ifCond .ge off, 3)) (ht : (pc : Int) + off = (tgt : Int)) (ha : -2147483648 ≤ a ∧ a < 2147483648)
    (kt : 0 ≤ a → X ce sl L f tgt lv st) (kf : ¬ 0 ≤ a → X ce sl L f (pc + 3) lv st) : X ce sl L f pc lv (.int (iI a) :: st) := by
  have hz : (-2147483648 : Int) ≤ 0 ∧ (0 : Int) < 2147483648 := by omega
  exact C.if_ge dg ht (fun h => kt (by rw [← iI_0, iI_le hz ha] at h; exact h)) (fun h => kf (by rw [← iI_0, iI_le hz ha] at h; exact h))
theorem Cx.icmp_geI (C : Cx own cc nL rt ini d mc ms Po X) {a b : Int} {off : Int} {tgt : Nat} (dg : decode cc pc = .ok (.if_icmp .ge off, 3)) (ht : (pc : Int) + off = (tgt : Int)) (ha : -2147483648 ≤ a ∧ a < 2147483648) (hb : -2147483648 ≤ b ∧ b < 2147483648)
    (kt : b ≤ a → X ce sl L f tgt lv st) (kf : ¬ b ≤ a → X ce sl L f (pc + 3) lv st) : X ce sl L f pc lv (.int (iI b) :: .int (iI a) :: st) := by
  exact C.icmp_ge dg ht (fun h => kt (by rw [iI_le hb ha] at h; exact h)) (fun h => kf (by rw [iI_le hb ha] at h; exact h))
theorem Cx.if_gtI (C : Cx own cc nL rt ini d mc ms Po X) {a : Int} {off : Int} {tgt : Nat} (dg : decode cc pc = .ok (.ifCond .gt off, 3)) (ht : (pc : Int) + off = (tgt : Int)) (ha : -2147483648 ≤ a ∧ a < 2147483648)
    (kt : 0 < a → X ce sl L f tgt lv st) (kf : ¬ 0 < a → X ce sl L f (pc + 3) lv st) : X ce sl L f pc lv (.int (iI a) :: st) := by
  have hz : (-2147483648 : Int) ≤ 0 ∧ (0 : Int) < 2147483648 := by omega
  exact C.if_gt dg ht (fun h => kt (by rw [← iI_0, iI_lt hz ha] at h; exact h)) (fun h => kf (by rw [← iI_0, iI_lt hz ha] at h; exact h))
theorem Cx.icmp_gtI (C : Cx own cc nL rt ini d mc ms Po X) {a b : Int} {off : Int} {tgt : Nat} (dg : decode cc pc = .ok (.if_icmp .gt off, 3)) (ht : (pc : Int) + off = (tgt : Int)) (ha : -2147483648 ≤ a ∧ a < 2147483648) (hb : -2147483648 ≤ b ∧ b < 2147483648)
    (kt : b < a → X ce sl L f tgt lv st) (kf : ¬ b < a → X ce sl L f (pc + 3) lv st) : X ce sl L f pc lv (.int (iI b) :: .int (iI a) :: st) := by
  exact C.icmp_gt dg ht (fun h => kt (by rw [iI_lt hb ha] at h; exact h)) (fun h => kf (by rw [iI_lt hb ha] at h; exact h))
theorem Cx.if_leI (C : Cx own cc nL rt ini d mc ms Po X) {a : Int} {off : Int} {tgt : Nat} (dg : decode cc pc = .ok (.ifCond .le off, 3)) (ht : (pc : Int) + off = (tgt : Int)) (ha : -2147483648 ≤ a ∧ a < 2147483648)
    (kt : a ≤ 0 → X ce sl L f tgt lv st) (kf : ¬ a ≤ 0 → X ce sl L f (pc + 3) lv st) : X ce sl L f pc lv (.int (iI a) :: st) := by
  have hz : (-2147483648 : Int) ≤ 0 ∧ (0 : Int) < 2147483648 := by omega
  exact C.if_le dg ht (fun h => kt (by rw [← iI_0, iI_le ha hz] at h; exact h)) (fun h => kf (by rw [← iI_0, iI_le ha hz] at h; exact h))
theorem Cx.icmp_leI (C : Cx own cc nL rt ini d mc ms Po X) {a b : Int} {off : Int} {tgt : Nat} (dg : decode cc pc = .ok (.if_icmp .le off, 3)) (ht : (pc : Int) + off = (tgt : Int)) (ha : -2147483648 ≤ a ∧ a < 2147483648) (hb : -2147483648 ≤ b ∧ b < 2147483648)
    (kt : a ≤ b → X ce sl L f tgt lv st) (kf : ¬ a ≤ b → X ce sl L f (pc + 3) lv st) : X ce sl L f pc lv (.int (iI b) :: .int (iI a) :: st) := by
  exact C.icmp_le dg ht (fun h => kt (by rw [iI_le ha hb] at h; exact h)) (fun h => kf (by rw [iI_le ha hb] at h; exact h))
theorem Cx.retI (C : Cx own cc nL rt ini d mc ms Po X) {z : Int} {ty : FieldType} (hrt : rt = some ty) (hn : narrow ty (.int (iI z)) = .int (iI z)) (dg : decode cc pc = .ok (.ireturn, 1)) (h1 : ce ≤ mc) (h2 : sl ≤ ms) (hp : Po (some (.int (iI z))) L f) : X ce sl L f pc lv [.int (iI z)] := C.iret hrt hn dg h1 h2 hp
theorem Cx.ialdI (C : Cx own cc nL rt ini d mc ms Po X) {k n : Nat} {g : Nat → Int} {z : Int} (dg : decode cc pc = .ok (.iaload, 1)) (hk : k ∈ L) (hf : f k = .inl (1, n, .inl (fun i => iI (g i)))) (hn : n < 2147483648) (hz : 0 ≤ z ∧ z < n)
    (kk : X ce sl L f (pc + 1) lv (.int (iI (g z.toNat)) :: st)) : X ce sl L f pc lv (.int (iI z) :: .ref k :: st) := C.iald dg hk hf (iI_in hz.1 hz.2 hn) (by rw [iI_clamp (by omega)]; exact kk)
theorem Cx.baldI (C : Cx own cc nL rt ini d mc ms Po X) {k n : Nat} {g : Nat → Int} {z : Int} (dg : decode cc pc = .ok (.baload, 1)) (hk : k ∈ L) (hf : f k = .inl (0, n, .inl (fun i => iI (g i)))) (hn : n < 2147483648) (hz : 0 ≤ z ∧ z < n)
    (kk : X ce sl L f (pc + 1) lv (.int (iI (g z.toNat)) :: st)) : X ce sl L f pc lv (.int (iI z) :: .ref k :: st) := C.bald dg hk hf (iI_in hz.1 hz.2 hn) (by rw [iI_clamp (by omega)]; exact kk)
theorem Cx.zaldI (C : Cx own cc nL rt ini d mc ms Po X) {k n : Nat} {g : Nat → Int} {z : Int} (dg : decode cc pc = .ok (.baload, 1)) (hk : k ∈ L) (hf : f k = .inl (2, n, .inl (fun i => iI (g i)))) (hn : n < 2147483648) (hz : 0 ≤ z ∧ z < n)
    (kk : X ce sl L f (pc + 1) lv (.int (iI (g z.toNat)) :: st)) : X ce sl L f pc lv (.int (iI z) :: .ref k :: st) := C.zald dg hk hf (iI_in hz.1 hz.2 hn) (by rw [iI_clamp (by omega)]; exact kk)
end INTS
