/-- what the class holds: int fields by 10*cell+slot (a list's row too, by its number), rows by their cells -/
def ko0 (c : SF) : List Value := [.ref 1, .ref 3, .ref 11, .ref 13, .ref 15, .int (iI (c 5)), .int (iI (c 6)), .int (iI (c 7))]
def ko1 (c : SF) : List Value := [.ref 2, .int (iI (c 11))]
def ko3 (c : SF) : List Value := [.ref 4, .ref 6, .int (iI (c 32)), .int (iI (c 33)), .ref 10, .int (iI (c 35))]
def ko4 (c : SF) : List Value := [.ref 5]
def ko5 (c : SF) : List Value := [.int (iI (c 50)), .ref (c 51).toNat, .int (iI (c 52))]
def ko6 (c : SF) : List Value := [.ref 7, .ref 8, .ref 9, .int (iI (c 63)), .int (iI (c 64)), .int (iI (c 65))]
def ko11 (c : SF) : List Value := [.ref 12, .int (iI (c 111)), .int (iI (c 112))]
def ko13 (c : SF) : List Value := [.ref 14]
def ko14 (c : SF) : List Value := [.int (iI (c 140)), .ref (c 141).toNat, .int (iI (c 142))]
def ko15 (c : SF) : List Value := [.ref 16]
def ko16 (c : SF) : List Value := [.int (iI (c 160)), .ref (c 161).toNat, .int (iI (c 162))]
def kv (c : SF) (a : SA) (g : Nat → AC) : Nat → AC := fun k => if k = 0 then .inr (10, ko0 c) else if k = 1 then .inr (7, ko1 c) else if k = 2 then .inl (0, 400, .inl (fun i => iI (a 2 i))) else if k = 3 then .inr (5, ko3 c) else if k = 4 then .inr (4, ko4 c) else if k = 5 then .inr (2, ko5 c) else if k = 6 then .inr (8, ko6 c) else if k = 7 then .inl (1, 400, .inl (fun i => iI (a 7 i))) else if k = 8 then .inl (1, 400, .inl (fun i => iI (a 8 i))) else if k = 9 then .inl (1, 400, .inl (fun i => iI (a 9 i))) else if k = 10 then .inl (1, 3, .inl (fun i => iI (a 10 i))) else if k = 11 then .inr (9, ko11 c) else if k = 12 then .inl (0, 400, .inl (fun i => iI (a 12 i))) else if k = 13 then .inr (4, ko13 c) else if k = 14 then .inr (2, ko14 c) else if k = 15 then .inr (4, ko15 c) else if k = 16 then .inr (2, ko16 c) else g k
theorem kvs_2 (c : SF) (a : SA) (g : Nat → AC) (h : Nat → Int) : va_up (kv c a g) 2 (.inl (0, 400, .inl (fun i => iI (h i)))) = kv c (va_up a 2 h) g := by
  funext k
  unfold va_up kv
  by_cases hk : k = 2
  · subst hk; rfl
  · simp only [if_neg hk]; (repeat (first | rfl | (split; · (first | rfl | (subst_vars; rfl)))))
theorem kvs_7 (c : SF) (a : SA) (g : Nat → AC) (h : Nat → Int) : va_up (kv c a g) 7 (.inl (1, 400, .inl (fun i => iI (h i)))) = kv c (va_up a 7 h) g := by
  funext k
  unfold va_up kv
  by_cases hk : k = 7
  · subst hk; rfl
  · simp only [if_neg hk]; (repeat (first | rfl | (split; · (first | rfl | (subst_vars; rfl)))))
theorem kvs_8 (c : SF) (a : SA) (g : Nat → AC) (h : Nat → Int) : va_up (kv c a g) 8 (.inl (1, 400, .inl (fun i => iI (h i)))) = kv c (va_up a 8 h) g := by
  funext k
  unfold va_up kv
  by_cases hk : k = 8
  · subst hk; rfl
  · simp only [if_neg hk]; (repeat (first | rfl | (split; · (first | rfl | (subst_vars; rfl)))))
theorem kvs_9 (c : SF) (a : SA) (g : Nat → AC) (h : Nat → Int) : va_up (kv c a g) 9 (.inl (1, 400, .inl (fun i => iI (h i)))) = kv c (va_up a 9 h) g := by
  funext k
  unfold va_up kv
  by_cases hk : k = 9
  · subst hk; rfl
  · simp only [if_neg hk]; (repeat (first | rfl | (split; · (first | rfl | (subst_vars; rfl)))))
theorem kvs_10 (c : SF) (a : SA) (g : Nat → AC) (h : Nat → Int) : va_up (kv c a g) 10 (.inl (1, 3, .inl (fun i => iI (h i)))) = kv c (va_up a 10 h) g := by
  funext k
  unfold va_up kv
  by_cases hk : k = 10
  · subst hk; rfl
  · simp only [if_neg hk]; (repeat (first | rfl | (split; · (first | rfl | (subst_vars; rfl)))))
theorem kvs_12 (c : SF) (a : SA) (g : Nat → AC) (h : Nat → Int) : va_up (kv c a g) 12 (.inl (0, 400, .inl (fun i => iI (h i)))) = kv c (va_up a 12 h) g := by
  funext k
  unfold va_up kv
  by_cases hk : k = 12
  · subst hk; rfl
  · simp only [if_neg hk]; (repeat (first | rfl | (split; · (first | rfl | (subst_vars; rfl)))))
theorem kvp_5 (c : SF) (a : SA) (g : Nat → AC) (z : Int) : va_up (kv c a g) 0 (.inr (10, (ko0 c).set 5 (.int (iI z)))) = kv (va_up c 5 z) a g := by
  funext k
  unfold va_up kv
  by_cases hk : k = 0
  · subst hk; rfl
  · simp only [if_neg hk]; (repeat (first | rfl | (split; · (first | rfl | (subst_vars; rfl)))))
theorem kvp_6 (c : SF) (a : SA) (g : Nat → AC) (z : Int) : va_up (kv c a g) 0 (.inr (10, (ko0 c).set 6 (.int (iI z)))) = kv (va_up c 6 z) a g := by
  funext k
  unfold va_up kv
  by_cases hk : k = 0
  · subst hk; rfl
  · simp only [if_neg hk]; (repeat (first | rfl | (split; · (first | rfl | (subst_vars; rfl)))))
theorem kvp_7 (c : SF) (a : SA) (g : Nat → AC) (z : Int) : va_up (kv c a g) 0 (.inr (10, (ko0 c).set 7 (.int (iI z)))) = kv (va_up c 7 z) a g := by
  funext k
  unfold va_up kv
  by_cases hk : k = 0
  · subst hk; rfl
  · simp only [if_neg hk]; (repeat (first | rfl | (split; · (first | rfl | (subst_vars; rfl)))))
theorem kvp_11 (c : SF) (a : SA) (g : Nat → AC) (z : Int) : va_up (kv c a g) 1 (.inr (7, (ko1 c).set 1 (.int (iI z)))) = kv (va_up c 11 z) a g := by
  funext k
  unfold va_up kv
  by_cases hk : k = 1
  · subst hk; rfl
  · simp only [if_neg hk]; (repeat (first | rfl | (split; · (first | rfl | (subst_vars; rfl)))))
theorem kvp_32 (c : SF) (a : SA) (g : Nat → AC) (z : Int) : va_up (kv c a g) 3 (.inr (5, (ko3 c).set 2 (.int (iI z)))) = kv (va_up c 32 z) a g := by
  funext k
  unfold va_up kv
  by_cases hk : k = 3
  · subst hk; rfl
  · simp only [if_neg hk]; (repeat (first | rfl | (split; · (first | rfl | (subst_vars; rfl)))))
theorem kvp_33 (c : SF) (a : SA) (g : Nat → AC) (z : Int) : va_up (kv c a g) 3 (.inr (5, (ko3 c).set 3 (.int (iI z)))) = kv (va_up c 33 z) a g := by
  funext k
  unfold va_up kv
  by_cases hk : k = 3
  · subst hk; rfl
  · simp only [if_neg hk]; (repeat (first | rfl | (split; · (first | rfl | (subst_vars; rfl)))))
theorem kvp_35 (c : SF) (a : SA) (g : Nat → AC) (z : Int) : va_up (kv c a g) 3 (.inr (5, (ko3 c).set 5 (.int (iI z)))) = kv (va_up c 35 z) a g := by
  funext k
  unfold va_up kv
  by_cases hk : k = 3
  · subst hk; rfl
  · simp only [if_neg hk]; (repeat (first | rfl | (split; · (first | rfl | (subst_vars; rfl)))))
theorem kvp_50 (c : SF) (a : SA) (g : Nat → AC) (z : Int) : va_up (kv c a g) 5 (.inr (2, (ko5 c).set 0 (.int (iI z)))) = kv (va_up c 50 z) a g := by
  funext k
  unfold va_up kv
  by_cases hk : k = 5
  · subst hk; rfl
  · simp only [if_neg hk]; (repeat (first | rfl | (split; · (first | rfl | (subst_vars; rfl)))))
theorem kvp_51 (c : SF) (a : SA) (g : Nat → AC) (z : Nat) : va_up (kv c a g) 5 (.inr (2, (ko5 c).set 1 (.ref z))) = kv (va_up c 51 z) a g := by
  funext k
  unfold va_up kv
  by_cases hk : k = 5
  · subst hk; rfl
  · simp only [if_neg hk]; (repeat (first | rfl | (split; · (first | rfl | (subst_vars; rfl)))))
theorem kvp_52 (c : SF) (a : SA) (g : Nat → AC) (z : Int) : va_up (kv c a g) 5 (.inr (2, (ko5 c).set 2 (.int (iI z)))) = kv (va_up c 52 z) a g := by
  funext k
  unfold va_up kv
  by_cases hk : k = 5
  · subst hk; rfl
  · simp only [if_neg hk]; (repeat (first | rfl | (split; · (first | rfl | (subst_vars; rfl)))))
theorem kvp_63 (c : SF) (a : SA) (g : Nat → AC) (z : Int) : va_up (kv c a g) 6 (.inr (8, (ko6 c).set 3 (.int (iI z)))) = kv (va_up c 63 z) a g := by
  funext k
  unfold va_up kv
  by_cases hk : k = 6
  · subst hk; rfl
  · simp only [if_neg hk]; (repeat (first | rfl | (split; · (first | rfl | (subst_vars; rfl)))))
theorem kvp_64 (c : SF) (a : SA) (g : Nat → AC) (z : Int) : va_up (kv c a g) 6 (.inr (8, (ko6 c).set 4 (.int (iI z)))) = kv (va_up c 64 z) a g := by
  funext k
  unfold va_up kv
  by_cases hk : k = 6
  · subst hk; rfl
  · simp only [if_neg hk]; (repeat (first | rfl | (split; · (first | rfl | (subst_vars; rfl)))))
theorem kvp_65 (c : SF) (a : SA) (g : Nat → AC) (z : Int) : va_up (kv c a g) 6 (.inr (8, (ko6 c).set 5 (.int (iI z)))) = kv (va_up c 65 z) a g := by
  funext k
  unfold va_up kv
  by_cases hk : k = 6
  · subst hk; rfl
  · simp only [if_neg hk]; (repeat (first | rfl | (split; · (first | rfl | (subst_vars; rfl)))))
theorem kvp_111 (c : SF) (a : SA) (g : Nat → AC) (z : Int) : va_up (kv c a g) 11 (.inr (9, (ko11 c).set 1 (.int (iI z)))) = kv (va_up c 111 z) a g := by
  funext k
  unfold va_up kv
  by_cases hk : k = 11
  · subst hk; rfl
  · simp only [if_neg hk]; (repeat (first | rfl | (split; · (first | rfl | (subst_vars; rfl)))))
theorem kvp_112 (c : SF) (a : SA) (g : Nat → AC) (z : Int) : va_up (kv c a g) 11 (.inr (9, (ko11 c).set 2 (.int (iI z)))) = kv (va_up c 112 z) a g := by
  funext k
  unfold va_up kv
  by_cases hk : k = 11
  · subst hk; rfl
  · simp only [if_neg hk]; (repeat (first | rfl | (split; · (first | rfl | (subst_vars; rfl)))))
theorem kvp_140 (c : SF) (a : SA) (g : Nat → AC) (z : Int) : va_up (kv c a g) 14 (.inr (2, (ko14 c).set 0 (.int (iI z)))) = kv (va_up c 140 z) a g := by
  funext k
  unfold va_up kv
  by_cases hk : k = 14
  · subst hk; rfl
  · simp only [if_neg hk]; (repeat (first | rfl | (split; · (first | rfl | (subst_vars; rfl)))))
theorem kvp_141 (c : SF) (a : SA) (g : Nat → AC) (z : Nat) : va_up (kv c a g) 14 (.inr (2, (ko14 c).set 1 (.ref z))) = kv (va_up c 141 z) a g := by
  funext k
  unfold va_up kv
  by_cases hk : k = 14
  · subst hk; rfl
  · simp only [if_neg hk]; (repeat (first | rfl | (split; · (first | rfl | (subst_vars; rfl)))))
theorem kvp_142 (c : SF) (a : SA) (g : Nat → AC) (z : Int) : va_up (kv c a g) 14 (.inr (2, (ko14 c).set 2 (.int (iI z)))) = kv (va_up c 142 z) a g := by
  funext k
  unfold va_up kv
  by_cases hk : k = 14
  · subst hk; rfl
  · simp only [if_neg hk]; (repeat (first | rfl | (split; · (first | rfl | (subst_vars; rfl)))))
theorem kvp_160 (c : SF) (a : SA) (g : Nat → AC) (z : Int) : va_up (kv c a g) 16 (.inr (2, (ko16 c).set 0 (.int (iI z)))) = kv (va_up c 160 z) a g := by
  funext k
  unfold va_up kv
  by_cases hk : k = 16
  · subst hk; rfl
  · simp only [if_neg hk]; (repeat (first | rfl | (split; · (first | rfl | (subst_vars; rfl)))))
theorem kvp_161 (c : SF) (a : SA) (g : Nat → AC) (z : Nat) : va_up (kv c a g) 16 (.inr (2, (ko16 c).set 1 (.ref z))) = kv (va_up c 161 z) a g := by
  funext k
  unfold va_up kv
  by_cases hk : k = 16
  · subst hk; rfl
  · simp only [if_neg hk]; (repeat (first | rfl | (split; · (first | rfl | (subst_vars; rfl)))))
theorem kvp_162 (c : SF) (a : SA) (g : Nat → AC) (z : Int) : va_up (kv c a g) 16 (.inr (2, (ko16 c).set 2 (.int (iI z)))) = kv (va_up c 162 z) a g := by
  funext k
  unfold va_up kv
  by_cases hk : k = 16
  · subst hk; rfl
  · simp only [if_neg hk]; (repeat (first | rfl | (split; · (first | rfl | (subst_vars; rfl)))))
theorem kv_up (c : SF) (a : SA) (g : Nat → AC) {q : Nat} (e : AC) (h : 17 ≤ q) : va_up (kv c a g) q e = kv c a (va_up g q e) := by
  funext k
  unfold va_up kv
  by_cases hk : k = q
  · subst hk
    simp only [if_true]
    repeat (first | rfl | rw [if_neg (by omega)])
  · simp only [if_neg hk]
theorem kv_hi (c : SF) (a : SA) (g : Nat → AC) {q : Nat} (h : 17 ≤ q) : kv c a g q = g q := by
  unfold kv
  repeat (first | rfl | rw [if_neg (by omega)])
theorem kv_ov (c sf : SF) (a sa : SA) (g : Nat → AC) : kv c a (ov sf sa g) = ov sf sa (kv c a g) := by
  funext k
  by_cases h : 17 ≤ k
  · rw [kv_hi _ _ _ h]
    unfold ov
    simp only [kv_hi c a g h]
  · have hne : ∀ g' : Nat → AC, ov sf sa g' k = g' k := fun g' => by
      unfold ov
      repeat (first | rfl | rw [if_neg (by omega)])
    rw [hne]
    unfold kv
    simp only [hne]
/-- the class's part of an end without new cells -/
def KPo (L : List Nat) (g : Nat → AC) (R : Option Value → SF → SA → Prop) : AT := fun r L' f' => ∃ c' a', R r c' a' ∧ L' = L ∧ f' = kv c' a' g
/-- a contract of a method of the class that makes nothing -/
def KA (y : MethodName) (cc : ByteArray) (nL : Nat) (rt : Option FieldType) (d : Nat) (as : List Value) (L : List Nat) (g : Nat → AC) (c : SF) (a : SA) (R : Option Value → SF → SA → Prop) : Prop := AM y cc nL rt d 0 0 as L (kv c a g) (KPo L g R)
theorem AM.imp {y : MethodName} {cc : ByteArray} {nL : Nat} {rt : Option FieldType} {d mc ms : Nat} {as : List Value} {L : List Nat} {f : Nat → AC} {Po Po' : AT} (h : AM y cc nL rt d mc ms as L f Po) (hR : ∀ r L' f', Po r L' f' → Po' r L' f') : AM y cc nL rt d mc ms as L f Po' := fun l dC dI cy ad sz had => by
  intro p e ha hc hk s m args below hf happ hP hC
  obtain ⟨k, o, h1, h2, h3, ⟨⟨r, L', f', q1, q2, q4⟩, q5⟩, q6⟩ := h l dC dI cy ad sz had p e ha hc hk s m args below hf happ hP hC
  exact ⟨k, o, h1, h2, h3, ⟨⟨r, L', f', q1, hR _ _ _ q2, q4⟩, q5⟩, q6⟩
theorem KA.imp {y : MethodName} {cc : ByteArray} {nL : Nat} {rt : Option FieldType} {d : Nat} {as : List Value} {L : List Nat} {g : Nat → AC} {c : SF} {a : SA} {R R' : Option Value → SF → SA → Prop} (h : KA y cc nL rt d as L g c a R) (hR : ∀ r c' a', R r c' a' → R' r c' a') : KA y cc nL rt d as L g c a R' :=
  AM.imp h (fun r L' f' q => by obtain ⟨c', a', q1, q2, q3⟩ := q; exact ⟨c', a', hR _ _ _ q1, q2, q3⟩)
theorem KA.of {y : MethodName} {cc : ByteArray} {nL : Nat} {rt : Option FieldType} {d : Nat} {as : List Value} {L : List Nat} {g : Nat → AC} {c : SF} {a : SA} {R : Option Value → SF → SA → Prop} (hy : plainName y.cls = true) (has : as.all (fun v => v.category == 1) = true) (hn : as.length ≤ nL)
    (body : ∀ X : XT, Cx y.cls cc nL rt false d 0 0 (KPo L g R) X → X 0 0 L (kv c a g) 0 (as.map some ++ List.replicate (nL - as.length) none) []) : KA y cc nL rt d as L g c a R :=
  AM.of hy (fun v hv => by have := List.all_eq_true.mp has v hv; simpa using this) hn false (fun h => by cases h) body
section CLASS
variable {own : String} {cc : ByteArray} {nL : Nat} {rt : Option FieldType} {ini : Bool} {d mc ms : Nat} {Po : AT} {X : XT} {ce sl pc : Nat} {L : List Nat} {g : Nat → AC} {c : SF} {a : SA} {lv : List (Option Value)} {st : List Value}
theorem Cx.kcall (C : Cx own cc nL rt ini d mc ms Po X) {y : MethodName} {cc2 : ByteArray} {nL2 : Nat} {rt2 : Option FieldType} {d2 idx n k ci : Nat} {as fs : List Value} {R2 : Option Value → SF → SA → Prop} {T : u_T} {N : Nat} (M : KA y cc2 nL2 rt2 d2 (.ref k :: as) L g c a R2) (cw : CW y cc2 nL2 rt2 n) (w1 : Cond.methodLink own idx y ∈ Om) (w2 : Cond.instanceMethod y ∈ Om) (w3 : Cond.selects y.cls y y ∈ Om) (dg : decode cc pc = .ok (.invokevirtual idx, 3)) (hk : k ∈ L) (hf : kv c a g k = .inr (ci, fs)) (hc : vwCl[ci]? = some (y.cls, T, N)) (hn : as.length = n) (hd : d2 + 1 ≤ d) (h1 : ce ≤ mc) (h2 : sl ≤ ms) (hs : (st.map fun v => v.category).sum ≤ 8) {st0 : List Value} (hst : st0 = as.reverse ++ .ref k :: st)
    (kk : ∀ (r : Option Value) (c' : SF) (a' : SA), R2 r c' a' → X ce sl L (kv c' a' g) (pc + 3) lv (r.toList ++ st)) : X ce sl L (kv c a g) pc lv st0 :=
  C.callV M cw w1 w2 w3 dg hk hf hc hn hd h1 h2 hs hst (fun r L' f' h => by obtain ⟨c', a', hR, rfl, rfl⟩ := h; exact kk r c' a' hR)
theorem Cx.kcallS (C : Cx own cc nL rt ini d mc ms Po X) {y : MethodName} {cc2 : ByteArray} {nL2 : Nat} {rt2 : Option FieldType} {d2 idx n : Nat} {as : List Value} {R2 : Option Value → SF → SA → Prop} (M : KA y cc2 nL2 rt2 d2 as L g c a R2) (cw : CW y cc2 nL2 rt2 n) (w1 : Cond.methodLink own idx y ∈ Om) (w2 : Cond.static y ∈ Om) (dg : decode cc pc = .ok (.invokestatic idx, 3)) (hn : as.length = n) (hd : d2 + 1 ≤ d) (h1 : ce ≤ mc) (h2 : sl ≤ ms) (hs : (st.map fun v => v.category).sum ≤ 8) {st0 : List Value} (hst : st0 = as.reverse ++ st)
    (kk : ∀ (r : Option Value) (c' : SF) (a' : SA), R2 r c' a' → X ce sl L (kv c' a' g) (pc + 3) lv (r.toList ++ st)) : X ce sl L (kv c a g) pc lv st0 :=
  C.callS M cw w1 w2 dg hn hd h1 h2 hs hst (fun r L' f' h => by obtain ⟨c', a', hR, rfl, rfl⟩ := h; exact kk r c' a' hR)
theorem Cx.kput_5 (C : Cx own cc nL rt ini d mc ms Po X) (hL : ∀ k, k < 36 → k ∈ L) {idx : Nat} {z : Int} (G : PF own idx 10 5 .int false) (dg : decode cc pc = .ok (.putfield idx, 3))
    (kk : X ce sl L (kv (va_up c 5 z) a g) (pc + 3) lv st) : X ce sl L (kv c a g) pc lv (.int (iI z) :: .ref 0 :: st) := C.putf G dg (hL 0 (by decide)) rfl (by rfl) (by rfl) (Nat.le_of_ble_eq_true rfl) (by rw [kvp_5]; exact kk)
theorem Cx.kput_6 (C : Cx own cc nL rt ini d mc ms Po X) (hL : ∀ k, k < 36 → k ∈ L) {idx : Nat} {z : Int} (G : PF own idx 10 6 .int false) (dg : decode cc pc = .ok (.putfield idx, 3))
    (kk : X ce sl L (kv (va_up c 6 z) a g) (pc + 3) lv st) : X ce sl L (kv c a g) pc lv (.int (iI z) :: .ref 0 :: st) := C.putf G dg (hL 0 (by decide)) rfl (by rfl) (by rfl) (Nat.le_of_ble_eq_true rfl) (by rw [kvp_6]; exact kk)
theorem Cx.kput_7 (C : Cx own cc nL rt ini d mc ms Po X) (hL : ∀ k, k < 36 → k ∈ L) {idx : Nat} {z : Int} (G : PF own idx 10 7 .int false) (dg : decode cc pc = .ok (.putfield idx, 3))
    (kk : X ce sl L (kv (va_up c 7 z) a g) (pc + 3) lv st) : X ce sl L (kv c a g) pc lv (.int (iI z) :: .ref 0 :: st) := C.putf G dg (hL 0 (by decide)) rfl (by rfl) (by rfl) (Nat.le_of_ble_eq_true rfl) (by rw [kvp_7]; exact kk)
theorem Cx.kput_11 (C : Cx own cc nL rt ini d mc ms Po X) (hL : ∀ k, k < 36 → k ∈ L) {idx : Nat} {z : Int} (G : PF own idx 7 1 .int false) (dg : decode cc pc = .ok (.putfield idx, 3))
    (kk : X ce sl L (kv (va_up c 11 z) a g) (pc + 3) lv st) : X ce sl L (kv c a g) pc lv (.int (iI z) :: .ref 1 :: st) := C.putf G dg (hL 1 (by decide)) rfl (by rfl) (by rfl) (Nat.le_of_ble_eq_true rfl) (by rw [kvp_11]; exact kk)
theorem Cx.kput_32 (C : Cx own cc nL rt ini d mc ms Po X) (hL : ∀ k, k < 36 → k ∈ L) {idx : Nat} {z : Int} (G : PF own idx 5 2 .int false) (dg : decode cc pc = .ok (.putfield idx, 3))
    (kk : X ce sl L (kv (va_up c 32 z) a g) (pc + 3) lv st) : X ce sl L (kv c a g) pc lv (.int (iI z) :: .ref 3 :: st) := C.putf G dg (hL 3 (by decide)) rfl (by rfl) (by rfl) (Nat.le_of_ble_eq_true rfl) (by rw [kvp_32]; exact kk)
theorem Cx.kput_33 (C : Cx own cc nL rt ini d mc ms Po X) (hL : ∀ k, k < 36 → k ∈ L) {idx : Nat} {z : Int} (G : PF own idx 5 3 .int false) (dg : decode cc pc = .ok (.putfield idx, 3))
    (kk : X ce sl L (kv (va_up c 33 z) a g) (pc + 3) lv st) : X ce sl L (kv c a g) pc lv (.int (iI z) :: .ref 3 :: st) := C.putf G dg (hL 3 (by decide)) rfl (by rfl) (by rfl) (Nat.le_of_ble_eq_true rfl) (by rw [kvp_33]; exact kk)
theorem Cx.kput_35 (C : Cx own cc nL rt ini d mc ms Po X) (hL : ∀ k, k < 36 → k ∈ L) {idx : Nat} {z : Int} (G : PF own idx 5 5 .int false) (dg : decode cc pc = .ok (.putfield idx, 3))
    (kk : X ce sl L (kv (va_up c 35 z) a g) (pc + 3) lv st) : X ce sl L (kv c a g) pc lv (.int (iI z) :: .ref 3 :: st) := C.putf G dg (hL 3 (by decide)) rfl (by rfl) (by rfl) (Nat.le_of_ble_eq_true rfl) (by rw [kvp_35]; exact kk)
theorem Cx.kput_63 (C : Cx own cc nL rt ini d mc ms Po X) (hL : ∀ k, k < 36 → k ∈ L) {idx : Nat} {z : Int} (G : PF own idx 8 3 .int false) (dg : decode cc pc = .ok (.putfield idx, 3))
    (kk : X ce sl L (kv (va_up c 63 z) a g) (pc + 3) lv st) : X ce sl L (kv c a g) pc lv (.int (iI z) :: .ref 6 :: st) := C.putf G dg (hL 6 (by decide)) rfl (by rfl) (by rfl) (Nat.le_of_ble_eq_true rfl) (by rw [kvp_63]; exact kk)
theorem Cx.kput_64 (C : Cx own cc nL rt ini d mc ms Po X) (hL : ∀ k, k < 36 → k ∈ L) {idx : Nat} {z : Int} (G : PF own idx 8 4 .int false) (dg : decode cc pc = .ok (.putfield idx, 3))
    (kk : X ce sl L (kv (va_up c 64 z) a g) (pc + 3) lv st) : X ce sl L (kv c a g) pc lv (.int (iI z) :: .ref 6 :: st) := C.putf G dg (hL 6 (by decide)) rfl (by rfl) (by rfl) (Nat.le_of_ble_eq_true rfl) (by rw [kvp_64]; exact kk)
theorem Cx.kput_65 (C : Cx own cc nL rt ini d mc ms Po X) (hL : ∀ k, k < 36 → k ∈ L) {idx : Nat} {z : Int} (G : PF own idx 8 5 .int false) (dg : decode cc pc = .ok (.putfield idx, 3))
    (kk : X ce sl L (kv (va_up c 65 z) a g) (pc + 3) lv st) : X ce sl L (kv c a g) pc lv (.int (iI z) :: .ref 6 :: st) := C.putf G dg (hL 6 (by decide)) rfl (by rfl) (by rfl) (Nat.le_of_ble_eq_true rfl) (by rw [kvp_65]; exact kk)
theorem Cx.kput_111 (C : Cx own cc nL rt ini d mc ms Po X) (hL : ∀ k, k < 36 → k ∈ L) {idx : Nat} {z : Int} (G : PF own idx 9 1 .int false) (dg : decode cc pc = .ok (.putfield idx, 3))
    (kk : X ce sl L (kv (va_up c 111 z) a g) (pc + 3) lv st) : X ce sl L (kv c a g) pc lv (.int (iI z) :: .ref 11 :: st) := C.putf G dg (hL 11 (by decide)) rfl (by rfl) (by rfl) (Nat.le_of_ble_eq_true rfl) (by rw [kvp_111]; exact kk)
theorem Cx.kput_112 (C : Cx own cc nL rt ini d mc ms Po X) (hL : ∀ k, k < 36 → k ∈ L) {idx : Nat} {z : Int} (G : PF own idx 9 2 .boolean false) (dg : decode cc pc = .ok (.putfield idx, 3)) (hz : z = 0 ∨ z = 1)
    (kk : X ce sl L (kv (va_up c 112 z) a g) (pc + 3) lv st) : X ce sl L (kv c a g) pc lv (.int (iI z) :: .ref 11 :: st) := C.putf G dg (hL 11 (by decide)) rfl (iI_bool hz).1 (iI_bool hz).2.1 (Nat.le_of_ble_eq_true rfl) (by rw [kvp_112]; exact kk)
theorem Cx.kald_2 (C : Cx own cc nL rt ini d mc ms Po X) (hL : ∀ k, k < 36 → k ∈ L) {k : Nat} {z : Int} (dg : decode cc pc = .ok (.baload, 1)) (hzk : z = (k : Int)) (hz : k < 400)
    (kk : X ce sl L (kv c a g) (pc + 1) lv (.int (iI (a 2 k)) :: st)) : X ce sl L (kv c a g) pc lv (.int (iI z) :: .ref 2 :: st) := by
  subst hzk
  exact C.baldI (g := a 2) dg (hL 2 (by decide)) rfl (by omega) (by omega) kk
theorem Cx.kast_2 (C : Cx own cc nL rt ini d mc ms Po X) (hL : ∀ k, k < 36 → k ∈ L) {k : Nat} {z x : Int} (dg : decode cc pc = .ok (.bastore, 1)) (hzk : z = (k : Int)) (hz : k < 400) (hx : -128 ≤ x ∧ x < 128)
    (kk : X ce sl L (kv c (va_up a 2 (va_up (a 2) k x)) g) (pc + 1) lv st) : X ce sl L (kv c a g) pc lv (.int (iI x) :: .int (iI z) :: .ref 2 :: st) := by
  subst hzk
  exact C.bast dg (hL 2 (by decide)) rfl (iI_in (by omega) (by omega) (show 400 < 2147483648 by omega)) (by rw [iI_clamp (by omega), Int.toNat_natCast, iI_byte hx, iI_upd, kvs_2]; exact kk)
theorem Cx.kald_7 (C : Cx own cc nL rt ini d mc ms Po X) (hL : ∀ k, k < 36 → k ∈ L) {k : Nat} {z : Int} (dg : decode cc pc = .ok (.iaload, 1)) (hzk : z = (k : Int)) (hz : k < 400)
    (kk : X ce sl L (kv c a g) (pc + 1) lv (.int (iI (a 7 k)) :: st)) : X ce sl L (kv c a g) pc lv (.int (iI z) :: .ref 7 :: st) := by
  subst hzk
  exact C.ialdI (g := a 7) dg (hL 7 (by decide)) rfl (by omega) (by omega) kk
theorem Cx.kast_7 (C : Cx own cc nL rt ini d mc ms Po X) (hL : ∀ k, k < 36 → k ∈ L) {k : Nat} {z x : Int} (dg : decode cc pc = .ok (.iastore, 1)) (hzk : z = (k : Int)) (hz : k < 400)
    (kk : X ce sl L (kv c (va_up a 7 (va_up (a 7) k x)) g) (pc + 1) lv st) : X ce sl L (kv c a g) pc lv (.int (iI x) :: .int (iI z) :: .ref 7 :: st) := by
  subst hzk
  exact C.iast dg (hL 7 (by decide)) rfl (iI_in (by omega) (by omega) (show 400 < 2147483648 by omega)) (by rw [iI_clamp (by omega), Int.toNat_natCast, iI_upd, kvs_7]; exact kk)
theorem Cx.kald_8 (C : Cx own cc nL rt ini d mc ms Po X) (hL : ∀ k, k < 36 → k ∈ L) {k : Nat} {z : Int} (dg : decode cc pc = .ok (.iaload, 1)) (hzk : z = (k : Int)) (hz : k < 400)
    (kk : X ce sl L (kv c a g) (pc + 1) lv (.int (iI (a 8 k)) :: st)) : X ce sl L (kv c a g) pc lv (.int (iI z) :: .ref 8 :: st) := by
  subst hzk
  exact C.ialdI (g := a 8) dg (hL 8 (by decide)) rfl (by omega) (by omega) kk
theorem Cx.kast_8 (C : Cx own cc nL rt ini d mc ms Po X) (hL : ∀ k, k < 36 → k ∈ L) {k : Nat} {z x : Int} (dg : decode cc pc = .ok (.iastore, 1)) (hzk : z = (k : Int)) (hz : k < 400)
    (kk : X ce sl L (kv c (va_up a 8 (va_up (a 8) k x)) g) (pc + 1) lv st) : X ce sl L (kv c a g) pc lv (.int (iI x) :: .int (iI z) :: .ref 8 :: st) := by
  subst hzk
  exact C.iast dg (hL 8 (by decide)) rfl (iI_in (by omega) (by omega) (show 400 < 2147483648 by omega)) (by rw [iI_clamp (by omega), Int.toNat_natCast, iI_upd, kvs_8]; exact kk)
theorem Cx.kald_9 (C : Cx own cc nL rt ini d mc ms Po X) (hL : ∀ k, k < 36 → k ∈ L) {k : Nat} {z : Int} (dg : decode cc pc = .ok (.iaload, 1)) (hzk : z = (k : Int)) (hz : k < 400)
    (kk : X ce sl L (kv c a g) (pc + 1) lv (.int (iI (a 9 k)) :: st)) : X ce sl L (kv c a g) pc lv (.int (iI z) :: .ref 9 :: st) := by
  subst hzk
  exact C.ialdI (g := a 9) dg (hL 9 (by decide)) rfl (by omega) (by omega) kk
theorem Cx.kast_9 (C : Cx own cc nL rt ini d mc ms Po X) (hL : ∀ k, k < 36 → k ∈ L) {k : Nat} {z x : Int} (dg : decode cc pc = .ok (.iastore, 1)) (hzk : z = (k : Int)) (hz : k < 400)
    (kk : X ce sl L (kv c (va_up a 9 (va_up (a 9) k x)) g) (pc + 1) lv st) : X ce sl L (kv c a g) pc lv (.int (iI x) :: .int (iI z) :: .ref 9 :: st) := by
  subst hzk
  exact C.iast dg (hL 9 (by decide)) rfl (iI_in (by omega) (by omega) (show 400 < 2147483648 by omega)) (by rw [iI_clamp (by omega), Int.toNat_natCast, iI_upd, kvs_9]; exact kk)
theorem Cx.kald_10 (C : Cx own cc nL rt ini d mc ms Po X) (hL : ∀ k, k < 36 → k ∈ L) {k : Nat} {z : Int} (dg : decode cc pc = .ok (.iaload, 1)) (hzk : z = (k : Int)) (hz : k < 3)
    (kk : X ce sl L (kv c a g) (pc + 1) lv (.int (iI (a 10 k)) :: st)) : X ce sl L (kv c a g) pc lv (.int (iI z) :: .ref 10 :: st) := by
  subst hzk
  exact C.ialdI (g := a 10) dg (hL 10 (by decide)) rfl (by omega) (by omega) kk
theorem Cx.kast_10 (C : Cx own cc nL rt ini d mc ms Po X) (hL : ∀ k, k < 36 → k ∈ L) {k : Nat} {z x : Int} (dg : decode cc pc = .ok (.iastore, 1)) (hzk : z = (k : Int)) (hz : k < 3)
    (kk : X ce sl L (kv c (va_up a 10 (va_up (a 10) k x)) g) (pc + 1) lv st) : X ce sl L (kv c a g) pc lv (.int (iI x) :: .int (iI z) :: .ref 10 :: st) := by
  subst hzk
  exact C.iast dg (hL 10 (by decide)) rfl (iI_in (by omega) (by omega) (show 3 < 2147483648 by omega)) (by rw [iI_clamp (by omega), Int.toNat_natCast, iI_upd, kvs_10]; exact kk)
theorem Cx.kald_12 (C : Cx own cc nL rt ini d mc ms Po X) (hL : ∀ k, k < 36 → k ∈ L) {k : Nat} {z : Int} (dg : decode cc pc = .ok (.baload, 1)) (hzk : z = (k : Int)) (hz : k < 400)
    (kk : X ce sl L (kv c a g) (pc + 1) lv (.int (iI (a 12 k)) :: st)) : X ce sl L (kv c a g) pc lv (.int (iI z) :: .ref 12 :: st) := by
  subst hzk
  exact C.baldI (g := a 12) dg (hL 12 (by decide)) rfl (by omega) (by omega) kk
theorem Cx.kast_12 (C : Cx own cc nL rt ini d mc ms Po X) (hL : ∀ k, k < 36 → k ∈ L) {k : Nat} {z x : Int} (dg : decode cc pc = .ok (.bastore, 1)) (hzk : z = (k : Int)) (hz : k < 400) (hx : -128 ≤ x ∧ x < 128)
    (kk : X ce sl L (kv c (va_up a 12 (va_up (a 12) k x)) g) (pc + 1) lv st) : X ce sl L (kv c a g) pc lv (.int (iI x) :: .int (iI z) :: .ref 12 :: st) := by
  subst hzk
  exact C.bast dg (hL 12 (by decide)) rfl (iI_in (by omega) (by omega) (show 400 < 2147483648 by omega)) (by rw [iI_clamp (by omega), Int.toNat_natCast, iI_byte hx, iI_upd, kvs_12]; exact kk)
end CLASS
