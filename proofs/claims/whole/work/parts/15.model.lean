/-- what the reference holds: its int fields by their places, its rows by their numbers -/
abbrev SF : Type := Nat → Int
abbrev SA : Type := Nat → Nat → Int
def mo (sf : SF) : List Value := [.int (iI (sf 0)), .ref 21, .ref 22, .ref 23, .ref 24, .ref 25, .ref 26, .ref 27, .ref 28, .int (iI (sf 9)), .int (iI (sf 10)), .int (iI (sf 11)), .int (iI (sf 12)), .int (iI (sf 13)), .ref 29, .ref 30, .ref 31, .int (iI (sf 17)), .int (iI (sf 18)), .int (iI (sf 19)), .ref 32, .int (iI (sf 21)), .int (iI (sf 22)), .int (iI (sf 23)), .int (iI (sf 24)), .int (iI (sf 25)), .int (iI (sf 26)), .ref 33, .ref 34, .int (iI (sf 29)), .int (iI (sf 30)), .int (iI (sf 31)), .int (iI (sf 32))]
def ov (sf : SF) (sa : SA) (g : Nat → AC) : Nat → AC := fun k => if k = 20 then .inr (11, mo sf) else if k = 21 then .inl (1, 100, .inl (fun i => iI (sa 21 i))) else if k = 22 then .inl (1, 300, .inl (fun i => iI (sa 22 i))) else if k = 23 then .inl (1, 100, .inl (fun i => iI (sa 23 i))) else if k = 24 then .inl (1, 100, .inl (fun i => iI (sa 24 i))) else if k = 25 then .inl (1, 100, .inl (fun i => iI (sa 25 i))) else if k = 26 then .inl (2, 100, .inl (fun i => iI (sa 26 i))) else if k = 27 then .inl (1, 200, .inl (fun i => iI (sa 27 i))) else if k = 28 then .inl (1, 84000, .inl (fun i => iI (sa 28 i))) else if k = 29 then .inl (1, 1400, .inl (fun i => iI (sa 29 i))) else if k = 30 then .inl (1, 1400, .inl (fun i => iI (sa 30 i))) else if k = 31 then .inl (1, 1400, .inl (fun i => iI (sa 31 i))) else if k = 32 then .inl (0, 400, .inl (fun i => iI (sa 32 i))) else if k = 33 then .inl (1, 5, .inl (fun i => iI (sa 33 i))) else if k = 34 then .inl (0, 9000, .inl (fun i => iI (sa 34 i))) else g k
theorem ov_20 (sf : SF) (sa : SA) (g : Nat → AC) : ov sf sa g 20 = .inr (11, mo sf) := rfl
theorem ov_21 (sf : SF) (sa : SA) (g : Nat → AC) : ov sf sa g 21 = .inl (1, 100, .inl (fun i => iI (sa 21 i))) := rfl
theorem ovs_21 (sf : SF) (sa : SA) (g : Nat → AC) (h : Nat → Int) : va_up (ov sf sa g) 21 (.inl (1, 100, .inl (fun i => iI (h i)))) = ov sf (va_up sa 21 h) g := by
  funext k
  unfold va_up ov
  by_cases hk : k = 21
  · subst hk; rfl
  · simp only [if_neg hk]; (repeat (first | rfl | (split; · (first | rfl | (subst_vars; rfl)))))
theorem ov_22 (sf : SF) (sa : SA) (g : Nat → AC) : ov sf sa g 22 = .inl (1, 300, .inl (fun i => iI (sa 22 i))) := rfl
theorem ovs_22 (sf : SF) (sa : SA) (g : Nat → AC) (h : Nat → Int) : va_up (ov sf sa g) 22 (.inl (1, 300, .inl (fun i => iI (h i)))) = ov sf (va_up sa 22 h) g := by
  funext k
  unfold va_up ov
  by_cases hk : k = 22
  · subst hk; rfl
  · simp only [if_neg hk]; (repeat (first | rfl | (split; · (first | rfl | (subst_vars; rfl)))))
theorem ov_23 (sf : SF) (sa : SA) (g : Nat → AC) : ov sf sa g 23 = .inl (1, 100, .inl (fun i => iI (sa 23 i))) := rfl
theorem ovs_23 (sf : SF) (sa : SA) (g : Nat → AC) (h : Nat → Int) : va_up (ov sf sa g) 23 (.inl (1, 100, .inl (fun i => iI (h i)))) = ov sf (va_up sa 23 h) g := by
  funext k
  unfold va_up ov
  by_cases hk : k = 23
  · subst hk; rfl
  · simp only [if_neg hk]; (repeat (first | rfl | (split; · (first | rfl | (subst_vars; rfl)))))
theorem ov_24 (sf : SF) (sa : SA) (g : Nat → AC) : ov sf sa g 24 = .inl (1, 100, .inl (fun i => iI (sa 24 i))) := rfl
theorem ovs_24 (sf : SF) (sa : SA) (g : Nat → AC) (h : Nat → Int) : va_up (ov sf sa g) 24 (.inl (1, 100, .inl (fun i => iI (h i)))) = ov sf (va_up sa 24 h) g := by
  funext k
  unfold va_up ov
  by_cases hk : k = 24
  · subst hk; rfl
  · simp only [if_neg hk]; (repeat (first | rfl | (split; · (first | rfl | (subst_vars; rfl)))))
theorem ov_25 (sf : SF) (sa : SA) (g : Nat → AC) : ov sf sa g 25 = .inl (1, 100, .inl (fun i => iI (sa 25 i))) := rfl
theorem ovs_25 (sf : SF) (sa : SA) (g : Nat → AC) (h : Nat → Int) : va_up (ov sf sa g) 25 (.inl (1, 100, .inl (fun i => iI (h i)))) = ov sf (va_up sa 25 h) g := by
  funext k
  unfold va_up ov
  by_cases hk : k = 25
  · subst hk; rfl
  · simp only [if_neg hk]; (repeat (first | rfl | (split; · (first | rfl | (subst_vars; rfl)))))
theorem ov_26 (sf : SF) (sa : SA) (g : Nat → AC) : ov sf sa g 26 = .inl (2, 100, .inl (fun i => iI (sa 26 i))) := rfl
theorem ovs_26 (sf : SF) (sa : SA) (g : Nat → AC) (h : Nat → Int) : va_up (ov sf sa g) 26 (.inl (2, 100, .inl (fun i => iI (h i)))) = ov sf (va_up sa 26 h) g := by
  funext k
  unfold va_up ov
  by_cases hk : k = 26
  · subst hk; rfl
  · simp only [if_neg hk]; (repeat (first | rfl | (split; · (first | rfl | (subst_vars; rfl)))))
theorem ov_27 (sf : SF) (sa : SA) (g : Nat → AC) : ov sf sa g 27 = .inl (1, 200, .inl (fun i => iI (sa 27 i))) := rfl
theorem ovs_27 (sf : SF) (sa : SA) (g : Nat → AC) (h : Nat → Int) : va_up (ov sf sa g) 27 (.inl (1, 200, .inl (fun i => iI (h i)))) = ov sf (va_up sa 27 h) g := by
  funext k
  unfold va_up ov
  by_cases hk : k = 27
  · subst hk; rfl
  · simp only [if_neg hk]; (repeat (first | rfl | (split; · (first | rfl | (subst_vars; rfl)))))
theorem ov_28 (sf : SF) (sa : SA) (g : Nat → AC) : ov sf sa g 28 = .inl (1, 84000, .inl (fun i => iI (sa 28 i))) := rfl
theorem ovs_28 (sf : SF) (sa : SA) (g : Nat → AC) (h : Nat → Int) : va_up (ov sf sa g) 28 (.inl (1, 84000, .inl (fun i => iI (h i)))) = ov sf (va_up sa 28 h) g := by
  funext k
  unfold va_up ov
  by_cases hk : k = 28
  · subst hk; rfl
  · simp only [if_neg hk]; (repeat (first | rfl | (split; · (first | rfl | (subst_vars; rfl)))))
theorem ov_29 (sf : SF) (sa : SA) (g : Nat → AC) : ov sf sa g 29 = .inl (1, 1400, .inl (fun i => iI (sa 29 i))) := rfl
theorem ovs_29 (sf : SF) (sa : SA) (g : Nat → AC) (h : Nat → Int) : va_up (ov sf sa g) 29 (.inl (1, 1400, .inl (fun i => iI (h i)))) = ov sf (va_up sa 29 h) g := by
  funext k
  unfold va_up ov
  by_cases hk : k = 29
  · subst hk; rfl
  · simp only [if_neg hk]; (repeat (first | rfl | (split; · (first | rfl | (subst_vars; rfl)))))
theorem ov_30 (sf : SF) (sa : SA) (g : Nat → AC) : ov sf sa g 30 = .inl (1, 1400, .inl (fun i => iI (sa 30 i))) := rfl
theorem ovs_30 (sf : SF) (sa : SA) (g : Nat → AC) (h : Nat → Int) : va_up (ov sf sa g) 30 (.inl (1, 1400, .inl (fun i => iI (h i)))) = ov sf (va_up sa 30 h) g := by
  funext k
  unfold va_up ov
  by_cases hk : k = 30
  · subst hk; rfl
  · simp only [if_neg hk]; (repeat (first | rfl | (split; · (first | rfl | (subst_vars; rfl)))))
theorem ov_31 (sf : SF) (sa : SA) (g : Nat → AC) : ov sf sa g 31 = .inl (1, 1400, .inl (fun i => iI (sa 31 i))) := rfl
theorem ovs_31 (sf : SF) (sa : SA) (g : Nat → AC) (h : Nat → Int) : va_up (ov sf sa g) 31 (.inl (1, 1400, .inl (fun i => iI (h i)))) = ov sf (va_up sa 31 h) g := by
  funext k
  unfold va_up ov
  by_cases hk : k = 31
  · subst hk; rfl
  · simp only [if_neg hk]; (repeat (first | rfl | (split; · (first | rfl | (subst_vars; rfl)))))
theorem ov_32 (sf : SF) (sa : SA) (g : Nat → AC) : ov sf sa g 32 = .inl (0, 400, .inl (fun i => iI (sa 32 i))) := rfl
theorem ovs_32 (sf : SF) (sa : SA) (g : Nat → AC) (h : Nat → Int) : va_up (ov sf sa g) 32 (.inl (0, 400, .inl (fun i => iI (h i)))) = ov sf (va_up sa 32 h) g := by
  funext k
  unfold va_up ov
  by_cases hk : k = 32
  · subst hk; rfl
  · simp only [if_neg hk]; (repeat (first | rfl | (split; · (first | rfl | (subst_vars; rfl)))))
theorem ov_33 (sf : SF) (sa : SA) (g : Nat → AC) : ov sf sa g 33 = .inl (1, 5, .inl (fun i => iI (sa 33 i))) := rfl
theorem ovs_33 (sf : SF) (sa : SA) (g : Nat → AC) (h : Nat → Int) : va_up (ov sf sa g) 33 (.inl (1, 5, .inl (fun i => iI (h i)))) = ov sf (va_up sa 33 h) g := by
  funext k
  unfold va_up ov
  by_cases hk : k = 33
  · subst hk; rfl
  · simp only [if_neg hk]; (repeat (first | rfl | (split; · (first | rfl | (subst_vars; rfl)))))
theorem ov_34 (sf : SF) (sa : SA) (g : Nat → AC) : ov sf sa g 34 = .inl (0, 9000, .inl (fun i => iI (sa 34 i))) := rfl
theorem ovs_34 (sf : SF) (sa : SA) (g : Nat → AC) (h : Nat → Int) : va_up (ov sf sa g) 34 (.inl (0, 9000, .inl (fun i => iI (h i)))) = ov sf (va_up sa 34 h) g := by
  funext k
  unfold va_up ov
  by_cases hk : k = 34
  · subst hk; rfl
  · simp only [if_neg hk]; (repeat (first | rfl | (split; · (first | rfl | (subst_vars; rfl)))))
theorem ovp (sf : SF) (sa : SA) (g : Nat → AC) (sf2 : SF) : va_up (ov sf sa g) 20 (.inr (11, mo sf2)) = ov sf2 sa g := by
  funext k
  unfold va_up ov
  by_cases hk : k = 20
  · subst hk; rfl
  · simp only [if_neg hk]
/-- the reference's part of an end: what it answers and holds -/
def MPo (L : List Nat) (g : Nat → AC) (R : Option Value → SF → SA → Prop) : AT := fun r L' f' => ∃ sf' sa', R r sf' sa' ∧ L' = L ∧ f' = ov sf' sa' g
/-- a contract of a method of the reference -/
def MM (y : MethodName) (cc : ByteArray) (nL : Nat) (rt : Option FieldType) (d : Nat) (as : List Value) (sf : SF) (sa : SA) (R : Option Value → SF → SA → Prop) : Prop := ∀ (L : List Nat) (g : Nat → AC), (∀ k, k < 36 → k ∈ L) → AM y cc nL rt d 0 0 (.ref 20 :: as) L (ov sf sa g) (MPo L g R)
theorem MM.of {y : MethodName} {cc : ByteArray} {nL : Nat} {rt : Option FieldType} {d : Nat} {as : List Value} {sf : SF} {sa : SA} {R : Option Value → SF → SA → Prop} (hy : plainName y.cls = true) (has : ∀ v ∈ as, v.category = 1) (hn : as.length + 1 ≤ nL)
    (body : ∀ (L : List Nat) (g : Nat → AC), (∀ k, k < 36 → k ∈ L) → ∀ X : XT, Cx y.cls cc nL rt false d 0 0 (MPo L g R) X → X 0 0 L (ov sf sa g) 0 ((.ref 20 :: as).map some ++ List.replicate (nL - (as.length + 1)) none) []) : MM y cc nL rt d as sf sa R := fun L g hL =>
  AM.of hy (fun v hv => by rcases List.mem_cons.mp hv with rfl | h; · rfl
                           · exact has v h) hn false (fun h => by cases h) (body L g hL)
theorem MM.of2 {y : MethodName} {cc : ByteArray} {nL : Nat} {rt : Option FieldType} {d : Nat} {as : List Value} {sf : SF} {sa : SA} {R : Option Value → SF → SA → Prop} (hy : plainName y.cls = true) (has : as.all (fun v => v.category == 1) = true) (hn : as.length + 1 ≤ nL)
    (body : ∀ (L : List Nat) (g : Nat → AC), (∀ k, k < 36 → k ∈ L) → ∀ X : XT, Cx y.cls cc nL rt false d 0 0 (MPo L g R) X → X 0 0 L (ov sf sa g) 0 ((.ref 20 :: as).map some ++ List.replicate (nL - (as.length + 1)) none) []) : MM y cc nL rt d as sf sa R :=
  MM.of hy (fun v hv => by have := List.all_eq_true.mp has v hv; simpa using this) hn body
theorem MM.imp {y : MethodName} {cc : ByteArray} {nL : Nat} {rt : Option FieldType} {d : Nat} {as : List Value} {sf : SF} {sa : SA} {R R' : Option Value → SF → SA → Prop} (h : MM y cc nL rt d as sf sa R) (hR : ∀ r sf' sa', R r sf' sa' → R' r sf' sa') : MM y cc nL rt d as sf sa R' := fun L g hL l dC dI cy ad sz had => by
  intro p e ha hc hk s m args below hf happ hP hC
  obtain ⟨k, o, h1, h2, h3, ⟨⟨r, L', f', q1, ⟨sf', sa', q2, q3⟩, q4⟩, q5⟩, q6⟩ := h L g hL l dC dI cy ad sz had p e ha hc hk s m args below hf happ hP hC
  exact ⟨k, o, h1, h2, h3, ⟨⟨r, L', f', q1, ⟨sf', sa', hR _ _ _ q2, q3⟩, q4⟩, q5⟩, q6⟩
section MODEL
variable {own : String} {cc : ByteArray} {nL : Nat} {rt : Option FieldType} {ini : Bool} {d mc ms : Nat} {Po : AT} {X : XT} {ce sl pc : Nat} {L : List Nat} {g : Nat → AC} {sf : SF} {sa : SA} {lv : List (Option Value)} {st : List Value}
theorem Cx.mget (C : Cx own cc nL rt ini d mc ms Po X) (hL : ∀ k, k < 36 → k ∈ L) {idx j : Nat} {v : Value} (G : GF own idx 11 j) (dg : decode cc pc = .ok (.getfield idx, 3)) (hv : (mo sf)[j]? = some v)
    (kk : X ce sl L (ov sf sa g) (pc + 3) lv (v :: st)) : X ce sl L (ov sf sa g) pc lv (.ref 20 :: st) := C.getf G dg (hL 20 (by decide)) rfl hv kk
theorem Cx.mput (C : Cx own cc nL rt ini d mc ms Po X) (hL : ∀ k, k < 36 → k ∈ L) {idx j : Nat} {z : Int} (G : PF own idx 11 j .int false) (dg : decode cc pc = .ok (.putfield idx, 3)) (hj : j < 33) (hv : (mo sf).set j (.int (iI z)) = mo (va_up sf j z))
    (kk : X ce sl L (ov (va_up sf j z) sa g) (pc + 3) lv st) : X ce sl L (ov sf sa g) pc lv (.int (iI z) :: .ref 20 :: st) := C.putf G dg (hL 20 (by decide)) rfl (by rfl) (by rfl) hj (by rw [hv, ovp]; exact kk)
theorem Cx.mputz (C : Cx own cc nL rt ini d mc ms Po X) (hL : ∀ k, k < 36 → k ∈ L) {idx j : Nat} {z : Int} (G : PF own idx 11 j .boolean false) (dg : decode cc pc = .ok (.putfield idx, 3)) (hj : j < 33) (hz : z = 0 ∨ z = 1) (hv : (mo sf).set j (.int (iI z)) = mo (va_up sf j z))
    (kk : X ce sl L (ov (va_up sf j z) sa g) (pc + 3) lv st) : X ce sl L (ov sf sa g) pc lv (.int (iI z) :: .ref 20 :: st) := C.putf G dg (hL 20 (by decide)) rfl (iI_bool hz).1 (iI_bool hz).2.1 hj (by rw [hv, ovp]; exact kk)
theorem Cx.mald (C : Cx own cc nL rt ini d mc ms Po X) (hL : ∀ k, k < 36 → k ∈ L) {a n : Nat} {z : Int} (dg : decode cc pc = .ok (.iaload, 1)) (ha : a < 36) (hf : ov sf sa g a = .inl (1, n, .inl (fun i => iI (sa a i)))) (hn : n < 2147483648) (hz : 0 ≤ z ∧ z < n)
    (kk : X ce sl L (ov sf sa g) (pc + 1) lv (.int (iI (sa a z.toNat)) :: st)) : X ce sl L (ov sf sa g) pc lv (.int (iI z) :: .ref a :: st) := C.ialdI dg (hL a ha) hf hn hz kk
theorem Cx.maldb (C : Cx own cc nL rt ini d mc ms Po X) (hL : ∀ k, k < 36 → k ∈ L) {a n : Nat} {z : Int} (dg : decode cc pc = .ok (.baload, 1)) (ha : a < 36) (hf : ov sf sa g a = .inl (0, n, .inl (fun i => iI (sa a i)))) (hn : n < 2147483648) (hz : 0 ≤ z ∧ z < n)
    (kk : X ce sl L (ov sf sa g) (pc + 1) lv (.int (iI (sa a z.toNat)) :: st)) : X ce sl L (ov sf sa g) pc lv (.int (iI z) :: .ref a :: st) := C.baldI dg (hL a ha) hf hn hz kk
theorem Cx.maldz (C : Cx own cc nL rt ini d mc ms Po X) (hL : ∀ k, k < 36 → k ∈ L) {a n : Nat} {z : Int} (dg : decode cc pc = .ok (.baload, 1)) (ha : a < 36) (hf : ov sf sa g a = .inl (2, n, .inl (fun i => iI (sa a i)))) (hn : n < 2147483648) (hz : 0 ≤ z ∧ z < n)
    (kk : X ce sl L (ov sf sa g) (pc + 1) lv (.int (iI (sa a z.toNat)) :: st)) : X ce sl L (ov sf sa g) pc lv (.int (iI z) :: .ref a :: st) := C.zaldI dg (hL a ha) hf hn hz kk
theorem Cx.mast (C : Cx own cc nL rt ini d mc ms Po X) (hL : ∀ k, k < 36 → k ∈ L) {a n : Nat} {z x : Int} (S : ∀ h : Nat → Int, va_up (ov sf sa g) a (.inl (1, n, .inl (fun i => iI (h i)))) = ov sf (va_up sa a h) g) (dg : decode cc pc = .ok (.iastore, 1)) (ha : a < 36) (hf : ov sf sa g a = .inl (1, n, .inl (fun i => iI (sa a i)))) (hn : n < 2147483648) (hz : 0 ≤ z ∧ z < n)
    (kk : X ce sl L (ov sf (va_up sa a (va_up (sa a) z.toNat x)) g) (pc + 1) lv st) : X ce sl L (ov sf sa g) pc lv (.int (iI x) :: .int (iI z) :: .ref a :: st) := C.iast dg (hL a ha) hf (iI_in hz.1 hz.2 hn) (by rw [iI_clamp (by omega), iI_upd, S]; exact kk)
theorem Cx.mastb (C : Cx own cc nL rt ini d mc ms Po X) (hL : ∀ k, k < 36 → k ∈ L) {a n : Nat} {z x : Int} (S : ∀ h : Nat → Int, va_up (ov sf sa g) a (.inl (0, n, .inl (fun i => iI (h i)))) = ov sf (va_up sa a h) g) (dg : decode cc pc = .ok (.bastore, 1)) (ha : a < 36) (hf : ov sf sa g a = .inl (0, n, .inl (fun i => iI (sa a i)))) (hn : n < 2147483648) (hz : 0 ≤ z ∧ z < n) (hx : -128 ≤ x ∧ x < 128)
    (kk : X ce sl L (ov sf (va_up sa a (va_up (sa a) z.toNat x)) g) (pc + 1) lv st) : X ce sl L (ov sf sa g) pc lv (.int (iI x) :: .int (iI z) :: .ref a :: st) := C.bast dg (hL a ha) hf (iI_in hz.1 hz.2 hn) (by rw [iI_clamp (by omega), iI_byte hx, iI_upd, S]; exact kk)
theorem Cx.mastz (C : Cx own cc nL rt ini d mc ms Po X) (hL : ∀ k, k < 36 → k ∈ L) {a n : Nat} {z x : Int} (S : ∀ h : Nat → Int, va_up (ov sf sa g) a (.inl (2, n, .inl (fun i => iI (h i)))) = ov sf (va_up sa a h) g) (dg : decode cc pc = .ok (.bastore, 1)) (ha : a < 36) (hf : ov sf sa g a = .inl (2, n, .inl (fun i => iI (sa a i)))) (hn : n < 2147483648) (hz : 0 ≤ z ∧ z < n) (hx : x = 0 ∨ x = 1)
    (kk : X ce sl L (ov sf (va_up sa a (va_up (sa a) z.toNat x)) g) (pc + 1) lv st) : X ce sl L (ov sf sa g) pc lv (.int (iI x) :: .int (iI z) :: .ref a :: st) := C.zast dg (hL a ha) hf (iI_in hz.1 hz.2 hn) (by rw [iI_clamp (by omega), (iI_bool hx).2.2, iI_upd, S]; exact kk)
theorem Cx.maldk (C : Cx own cc nL rt ini d mc ms Po X) (hL : ∀ k, k < 36 → k ∈ L) {a n k : Nat} {z : Int} (dg : decode cc pc = .ok (.iaload, 1)) (ha : a < 36) (hf : ov sf sa g a = .inl (1, n, .inl (fun i => iI (sa a i)))) (hn : n < 2147483648) (hzk : z = (k : Int)) (hz : k < n)
    (kk : X ce sl L (ov sf sa g) (pc + 1) lv (.int (iI (sa a k)) :: st)) : X ce sl L (ov sf sa g) pc lv (.int (iI z) :: .ref a :: st) := by
  subst hzk
  exact C.mald hL dg ha hf hn (by omega) kk
theorem Cx.maldbk (C : Cx own cc nL rt ini d mc ms Po X) (hL : ∀ k, k < 36 → k ∈ L) {a n k : Nat} {z : Int} (dg : decode cc pc = .ok (.baload, 1)) (ha : a < 36) (hf : ov sf sa g a = .inl (0, n, .inl (fun i => iI (sa a i)))) (hn : n < 2147483648) (hzk : z = (k : Int)) (hz : k < n)
    (kk : X ce sl L (ov sf sa g) (pc + 1) lv (.int (iI (sa a k)) :: st)) : X ce sl L (ov sf sa g) pc lv (.int (iI z) :: .ref a :: st) := by
  subst hzk
  exact C.maldb hL dg ha hf hn (by omega) kk
theorem Cx.maldzk (C : Cx own cc nL rt ini d mc ms Po X) (hL : ∀ k, k < 36 → k ∈ L) {a n k : Nat} {z : Int} (dg : decode cc pc = .ok (.baload, 1)) (ha : a < 36) (hf : ov sf sa g a = .inl (2, n, .inl (fun i => iI (sa a i)))) (hn : n < 2147483648) (hzk : z = (k : Int)) (hz : k < n)
    (kk : X ce sl L (ov sf sa g) (pc + 1) lv (.int (iI (sa a k)) :: st)) : X ce sl L (ov sf sa g) pc lv (.int (iI z) :: .ref a :: st) := by
  subst hzk
  exact C.maldz hL dg ha hf hn (by omega) kk
theorem Cx.mastk (C : Cx own cc nL rt ini d mc ms Po X) (hL : ∀ k, k < 36 → k ∈ L) {a n k : Nat} {z x : Int} (S : ∀ h : Nat → Int, va_up (ov sf sa g) a (.inl (1, n, .inl (fun i => iI (h i)))) = ov sf (va_up sa a h) g) (dg : decode cc pc = .ok (.iastore, 1)) (ha : a < 36) (hf : ov sf sa g a = .inl (1, n, .inl (fun i => iI (sa a i)))) (hn : n < 2147483648) (hzk : z = (k : Int)) (hz : k < n)
    (kk : X ce sl L (ov sf (va_up sa a (va_up (sa a) k x)) g) (pc + 1) lv st) : X ce sl L (ov sf sa g) pc lv (.int (iI x) :: .int (iI z) :: .ref a :: st) := by
  subst hzk
  exact C.mast hL S dg ha hf hn (by omega) kk
theorem Cx.mastbk (C : Cx own cc nL rt ini d mc ms Po X) (hL : ∀ k, k < 36 → k ∈ L) {a n k : Nat} {z x : Int} (S : ∀ h : Nat → Int, va_up (ov sf sa g) a (.inl (0, n, .inl (fun i => iI (h i)))) = ov sf (va_up sa a h) g) (dg : decode cc pc = .ok (.bastore, 1)) (ha : a < 36) (hf : ov sf sa g a = .inl (0, n, .inl (fun i => iI (sa a i)))) (hn : n < 2147483648) (hzk : z = (k : Int)) (hz : k < n) (hx : -128 ≤ x ∧ x < 128)
    (kk : X ce sl L (ov sf (va_up sa a (va_up (sa a) k x)) g) (pc + 1) lv st) : X ce sl L (ov sf sa g) pc lv (.int (iI x) :: .int (iI z) :: .ref a :: st) := by
  subst hzk
  exact C.mastb hL S dg ha hf hn (by omega) hx kk
theorem Cx.mastzk (C : Cx own cc nL rt ini d mc ms Po X) (hL : ∀ k, k < 36 → k ∈ L) {a n k : Nat} {z x : Int} (S : ∀ h : Nat → Int, va_up (ov sf sa g) a (.inl (2, n, .inl (fun i => iI (h i)))) = ov sf (va_up sa a h) g) (dg : decode cc pc = .ok (.bastore, 1)) (ha : a < 36) (hf : ov sf sa g a = .inl (2, n, .inl (fun i => iI (sa a i)))) (hn : n < 2147483648) (hzk : z = (k : Int)) (hz : k < n) (hx : x = 0 ∨ x = 1)
    (kk : X ce sl L (ov sf (va_up sa a (va_up (sa a) k x)) g) (pc + 1) lv st) : X ce sl L (ov sf sa g) pc lv (.int (iI x) :: .int (iI z) :: .ref a :: st) := by
  subst hzk
  exact C.mastz hL S dg ha hf hn (by omega) hx kk
theorem Cx.mcall (C : Cx own cc nL rt ini d mc ms Po X) (hL : ∀ k, k < 36 → k ∈ L) {y : MethodName} {cc2 : ByteArray} {nL2 : Nat} {rt2 : Option FieldType} {d2 idx n : Nat} {as : List Value} {R2 : Option Value → SF → SA → Prop} (M : MM y cc2 nL2 rt2 d2 as sf sa R2) (cw : CW y cc2 nL2 rt2 n) (w1 : Cond.methodLink own idx y ∈ Om) (w2 : Cond.instanceMethod y ∈ Om) (w3 : Cond.selects y.cls y y ∈ Om) (dg : decode cc pc = .ok (.invokevirtual idx, 3)) (hy : y.cls = RX9) (hn : as.length = n) (hd : d2 + 1 ≤ d) (h1 : ce ≤ mc) (h2 : sl ≤ ms) (hs : (st.map fun v => v.category).sum ≤ 8) {st0 : List Value} (hst : st0 = as.reverse ++ .ref 20 :: st)
    (kk : ∀ (r : Option Value) (sf' : SF) (sa' : SA), R2 r sf' sa' → X ce sl L (ov sf' sa' g) (pc + 3) lv (r.toList ++ st)) : X ce sl L (ov sf sa g) pc lv st0 :=
  C.callV (M L g hL) cw w1 w2 w3 dg (hL 20 (by decide)) rfl (T := TX9) (N := 33) (by rw [hy]; rfl) hn hd h1 h2 hs hst (fun r L' f' h => by obtain ⟨sf', sa', hR, rfl, rfl⟩ := h; exact kk r sf' sa' hR)
end MODEL
