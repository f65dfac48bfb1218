/-! the class's whole world -/
/-- what the law's other things see: they stay -/
def FM (L : List Nat) (f : Nat → AC) (L' : List Nat) (f' : Nat → AC) : Prop := (∀ q ∈ L, q ∈ L') ∧ ∀ q ∈ L, 17 ≤ q → q < 2000 → f' q = f q
def eOK (e : Nat) : Prop := e = 17 ∨ 2000 ≤ e
/-- the class holds the old sentences po and the new ones pn -/
def KI (L : List Nat) (f : Nat → AC) (c : SF) (a : SA) (e4 e13 e15 : Nat) (po pn : List (Nat × Sen)) : Prop := (f = kv c a f ∧ (∀ k, k < 36 → k ∈ L) ∧ T18 L f) ∧ ((∃ p4, LtAt L f 4 e4 p4) ∧ LtAt L f 13 e13 po ∧ LtAt L f 15 e15 pn) ∧ ((e4 = e13 → e4 = 17) ∧ (e4 = e15 → e4 = 17) ∧ (e13 = e15 → e13 = 17)) ∧ (eOK e4 ∧ eOK e13 ∧ eOK e15)
def KJ (L : List Nat) (f : Nat → AC) (c : SF) (a : SA) (xs ys : List Sen) : Prop := ∃ e4 e13 e15 po pn, KI L f c a e4 e13 e15 po pn ∧ po.map (fun p => p.2) = xs ∧ pn.map (fun p => p.2) = ys
section KII
variable {L L' L1 L2 : List Nat} {f f' f1 f2 : Nat → AC} {c c' : SF} {a a' : SA} {e4 e13 e15 e' e1 : Nat} {po pn ps' : List (Nat × Sen)} {E : List Nat}
theorem FM.rf : FM L f L f := ⟨fun _ h => h, fun _ _ _ _ => rfl⟩
theorem FM.tr (h1 : FM L f L1 f1) (h2 : FM L1 f1 L2 f2) : FM L f L2 f2 := ⟨fun q hq => h2.1 q (h1.1 q hq), fun q hq x y => (h2.2 q (h1.1 q hq) x y).trans (h1.2 q hq x y)⟩
theorem FE.m (h : FE E L f L' f') (hE : ∀ q ∈ E, q < 17) : FM L f L' f' := ⟨h.1, fun q hq x _ => h.2 q hq (fun he => by have := hE q he; omega)⟩
theorem FH.m (h : FH e1 L f L' f') (he : eOK e1) : FM L f L' f' := ⟨h.1, fun q hq x y => h.2 q hq x (fun hqe => by rcases he with he | he <;> omega)⟩
theorem FqL.m {k : Nat} (h : FqL k e1 L f L' f') (hk : k < 17) (he : eOK e1) : FM L f L' f' := (h.h hk).m he
theorem kv_l14 {m n : Int} (hK : f = kv c a f) (h : ∀ q, q < 17 → q ≠ 14 → f' q = f q) (h5 : f' 14 = aL m e' n) : f' = kv (va_up (va_up (va_up c 140 m) 141 (e' : Int)) 142 n) a f' := by
  funext q
  by_cases h17 : 17 ≤ q
  · rw [kv_ge h17]
  · by_cases hq : q = 14
    · subst hq
      rw [h5]
      rfl
    · have h1 : f' q = kv c a f' q := by
        rw [h q (by omega) hq, kv_lo (g' := f) (by omega), ← hK]
      rw [h1]
      rcases (show q = 0 ∨ q = 1 ∨ q = 2 ∨ q = 3 ∨ q = 4 ∨ q = 5 ∨ q = 6 ∨ q = 7 ∨ q = 8 ∨ q = 9 ∨ q = 10 ∨ q = 11 ∨ q = 12 ∨ q = 13 ∨ q = 15 ∨ q = 16 by omega) with h | h | h | h | h | h | h | h | h | h | h | h | h | h | h | h <;> subst h <;> rfl
theorem kv_l16 {m n : Int} (hK : f = kv c a f) (h : ∀ q, q < 17 → q ≠ 16 → f' q = f q) (h5 : f' 16 = aL m e' n) : f' = kv (va_up (va_up (va_up c 160 m) 161 (e' : Int)) 162 n) a f' := by
  funext q
  by_cases h17 : 17 ≤ q
  · rw [kv_ge h17]
  · by_cases hq : q = 16
    · subst hq
      rw [h5]
      rfl
    · have h1 : f' q = kv c a f' q := by
        rw [h q (by omega) hq, kv_lo (g' := f) (by omega), ← hK]
      rw [h1]
      rcases (show q = 0 ∨ q = 1 ∨ q = 2 ∨ q = 3 ∨ q = 4 ∨ q = 5 ∨ q = 6 ∨ q = 7 ∨ q = 8 ∨ q = 9 ∨ q = 10 ∨ q = 11 ∨ q = 12 ∨ q = 13 ∨ q = 14 ∨ q = 15 by omega) with h | h | h | h | h | h | h | h | h | h | h | h | h | h | h | h <;> subst h <;> rfl
/-- behind a change of one of the lists -/
theorem list_low {k m0 n0 : Nat} {hlt : True} (hK : f = kv c a f) (hL : ∀ k, k < 36 → k ∈ L) (hF : FqL k e1 L f L' f') (hq : ∃ n gr, f e1 = aQ n gr) : ∀ j, j < 17 → j ≠ k → f' j = f j := fun j hj hjk => hF.2 j (hL j (by omega)) hjk (fun he => by
  obtain ⟨n, gr, hg⟩ := hq
  rw [← he] at hg
  exact absurd hg (kv_noQ hK hj))
theorem T18.keepQ {k : Nat} (h : T18 L f) (hF : FqL k e1 L f L' f') (hk : k ≠ 18) (hq : ∃ n gr, f e1 = aQ n gr) : T18 L' f' := ⟨hF.1 _ h.1, by
  rw [hF.2 18 h.1 (Ne.symm hk) (fun he => by
    obtain ⟨n, gr, hg⟩ := hq
    rw [← he, h.2] at hg
    cases hg)]
  exact h.2⟩
theorem e_new (h1 : e' = e15 ∨ (e' ∉ L ∧ 2000 ≤ e')) (h : eOK e15) : eOK e' := by
  rcases h1 with rfl | ⟨-, h2⟩
  · exact h
  · exact Or.inr h2
theorem e_ne {x : Nat} (h1 : e' = e15 ∨ (e' ∉ L ∧ 2000 ≤ e')) (hx : x ∈ L) (h : x = e15 → x = 17) : x = e' → x = 17 := fun he => by
  rcases h1 with rfl | ⟨h2, -⟩
  · exact h he
  · exact absurd (he ▸ hx) h2
theorem KI.up15 (h : KI L f c a e4 e13 e15 po pn) (hA : LtAt L' f' 15 e' ps') (hF : FqL 16 e15 L f L' f') (he : e' = e15 ∨ (e' ∉ L ∧ 2000 ≤ e')) : ∃ c', KI L' f' c' a e4 e13 e' po ps' ∧ (∀ j, j < 160 → c' j = c j) ∧ FM L f L' f' := by
  obtain ⟨⟨hK, hL, h18⟩, ⟨⟨p4, h4⟩, h13, h15⟩, ⟨x1, x2, x3⟩, y1, y2, y3⟩ := h
  obtain ⟨cap, hls⟩ := hA.2.1
  obtain ⟨-, -, ⟨m, n, hf16⟩, -⟩ := hls.obj
  obtain ⟨cap0, hls0⟩ := h15.2.1
  obtain ⟨-, -, -, hq⟩ := hls0.obj
  obtain ⟨cap4, hls4⟩ := h4.2.1
  obtain ⟨cap13, hls13⟩ := h13.2.1
  have hlow := list_low (m0 := 0) (n0 := 0) (hlt := trivial) hK hL hF hq
  refine ⟨_, ⟨⟨kv_l16 hK hlow hf16, fun k hk => hF.1 k (hL k hk), h18.keepQ hF (by decide) hq⟩, ⟨⟨p4, h4.keepQ hls0 hF (by decide) (by decide) (by decide) x2⟩, h13.keepQ hls0 hF (by decide) (by decide) (by decide) x3, hA⟩, ⟨x1, e_ne he hls4.obj.2.1 x2, e_ne he hls13.obj.2.1 x3⟩, y1, y2, e_new he y3⟩, fun j hj => ?_, hF.m (by decide) y3⟩
  rw [va_up_ne _ _ (by omega), va_up_ne _ _ (by omega), va_up_ne _ _ (by omega)]
theorem KI.up13 (h : KI L f c a e4 e13 e15 po pn) (hA : LtAt L' f' 13 e' ps') (hF : FqL 14 e13 L f L' f') (he : e' = e13 ∨ (e' ∉ L ∧ 2000 ≤ e')) : ∃ c', KI L' f' c' a e4 e' e15 ps' pn ∧ (∀ j, j < 140 → c' j = c j) ∧ FM L f L' f' := by
  obtain ⟨⟨hK, hL, h18⟩, ⟨⟨p4, h4⟩, h13, h15⟩, ⟨x1, x2, x3⟩, y1, y2, y3⟩ := h
  obtain ⟨cap, hls⟩ := hA.2.1
  obtain ⟨-, -, ⟨m, n, hf14⟩, -⟩ := hls.obj
  obtain ⟨cap0, hls0⟩ := h13.2.1
  obtain ⟨-, -, -, hq⟩ := hls0.obj
  obtain ⟨cap4, hls4⟩ := h4.2.1
  obtain ⟨cap15, hls15⟩ := h15.2.1
  have hlow := list_low (m0 := 0) (n0 := 0) (hlt := trivial) hK hL hF hq
  have x3' : e15 = e13 → e15 = 17 := fun h => h.trans (x3 h.symm)
  refine ⟨_, ⟨⟨kv_l14 hK hlow hf14, fun k hk => hF.1 k (hL k hk), h18.keepQ hF (by decide) hq⟩, ⟨⟨p4, h4.keepQ hls0 hF (by decide) (by decide) (by decide) x1⟩, hA, h15.keepQ hls0 hF (by decide) (by decide) (by decide) x3'⟩, ⟨e_ne he hls4.obj.2.1 x1, x2, fun h => by
    have := e_ne he hls15.obj.2.1 x3' h.symm
    omega⟩, y1, e_new he y2, y3⟩, fun j hj => ?_, hF.m (by decide) y2⟩
  rw [va_up_ne _ _ (by omega), va_up_ne _ _ (by omega), va_up_ne _ _ (by omega)]
/-- int fields of the class itself and rows may change -/
theorem KI.kv (h : KI L f c a e4 e13 e15 po pn) (hF : FE E L f L (kv c' a' f)) (hE : ∀ q ∈ E, q = 0 ∨ q = 1 ∨ q = 2 ∨ q = 11 ∨ q = 12) : KI L (kv c' a' f) c' a' e4 e13 e15 po pn := by
  obtain ⟨⟨hK, hL, h18⟩, ⟨⟨p4, h4⟩, h13, h15⟩, hx, hy⟩ := h
  refine ⟨⟨kv_idem.symm, hL, ⟨h18.1, (hF.2 18 h18.1 (fun h => by have := hE _ h; omega)).trans h18.2⟩⟩, ⟨⟨p4, h4.keepF hK hF (fun q hq => by have := hE q hq; omega)⟩, h13.keepF hK hF (fun q hq => by have := hE q hq; omega), h15.keepF hK hF (fun q hq => by have := hE q hq; omega)⟩, hx, hy⟩
/-- only fields and rows that the law's calls set may differ -/
def Gk (c c' : SF) (a a' : SA) : Prop := (∀ j, j ≠ 5 → j ≠ 6 → j ≠ 7 → j ≠ 11 → j ≠ 111 → j ≠ 112 → c' j = c j) ∧ ∀ b, b ≠ 2 → b ≠ 12 → a' b = a b
theorem kv_Gk {q : Nat} {g : Nat → AC} (h : Gk c c' a a') (h0 : q ≠ 0) (h1 : q ≠ 1) (h2 : q ≠ 2) (h11 : q ≠ 11) (h12 : q ≠ 12) : kv c' a' g q = kv c a g q := by
  have e := fun j (x : j ≠ 5 ∧ j ≠ 6 ∧ j ≠ 7 ∧ j ≠ 11 ∧ j ≠ 111 ∧ j ≠ 112) => h.1 j x.1 x.2.1 x.2.2.1 x.2.2.2.1 x.2.2.2.2.1 x.2.2.2.2.2
  have eA := fun b (x : b ≠ 2 ∧ b ≠ 12) => h.2 b x.1 x.2
  by_cases h17 : 17 ≤ q
  · rw [kv_ge h17, kv_ge h17]
  rcases (show q = 3 ∨ q = 4 ∨ q = 5 ∨ q = 6 ∨ q = 7 ∨ q = 8 ∨ q = 9 ∨ q = 10 ∨ q = 13 ∨ q = 14 ∨ q = 15 ∨ q = 16 by omega) with h0 | h0 | h0 | h0 | h0 | h0 | h0 | h0 | h0 | h0 | h0 | h0 <;> subst h0
  · show (.inr (5, ko3 c') : AC) = .inr (5, ko3 c)
    unfold ko3
    rw [e 32 (by decide), e 33 (by decide), e 35 (by decide)]
  · rfl
  · show (.inr (2, ko5 c') : AC) = .inr (2, ko5 c)
    unfold ko5
    rw [e 50 (by decide), e 51 (by decide), e 52 (by decide)]
  · show (.inr (8, ko6 c') : AC) = .inr (8, ko6 c)
    unfold ko6
    rw [e 63 (by decide), e 64 (by decide), e 65 (by decide)]
  · show (.inl (1, 400, .inl (fun i => iI (a' 7 i))) : AC) = .inl (1, 400, .inl (fun i => iI (a 7 i)))
    rw [eA 7 (by decide)]
  · show (.inl (1, 400, .inl (fun i => iI (a' 8 i))) : AC) = .inl (1, 400, .inl (fun i => iI (a 8 i)))
    rw [eA 8 (by decide)]
  · show (.inl (1, 400, .inl (fun i => iI (a' 9 i))) : AC) = .inl (1, 400, .inl (fun i => iI (a 9 i)))
    rw [eA 9 (by decide)]
  · show (.inl (1, 3, .inl (fun i => iI (a' 10 i))) : AC) = .inl (1, 3, .inl (fun i => iI (a 10 i)))
    rw [eA 10 (by decide)]
  · rfl
  · show (.inr (2, ko14 c') : AC) = .inr (2, ko14 c)
    unfold ko14
    rw [e 140 (by decide), e 141 (by decide), e 142 (by decide)]
  · rfl
  · show (.inr (2, ko16 c') : AC) = .inr (2, ko16 c)
    unfold ko16
    rw [e 160 (by decide), e 161 (by decide), e 162 (by decide)]
theorem kv_Fk (hK : f = kv c a f) (h : Gk c c' a a') : FE [0, 1, 2, 11, 12] L f L (Jvm.Pilot.CPlainWordsLaw_law_r8322_ad55f8.kv c' a' f) := ⟨fun _ h => h, fun q _ hq => by
  rw [kv_Gk h (fun h => hq (by simp [h])) (fun h => hq (by simp [h])) (fun h => hq (by simp [h])) (fun h => hq (by simp [h])) (fun h => hq (by simp [h]))]
  exact congrFun hK.symm q⟩
theorem KI.gk (h : KI L f c a e4 e13 e15 po pn) (hG : Gk c c' a a') : KI L (Jvm.Pilot.CPlainWordsLaw_law_r8322_ad55f8.kv c' a' f) c' a' e4 e13 e15 po pn ∧ FM L f L (Jvm.Pilot.CPlainWordsLaw_law_r8322_ad55f8.kv c' a' f) := ⟨h.kv (kv_Fk h.1.1 hG) (fun q hq => by simp at hq; omega), (kv_Fk h.1.1 hG).m (fun q hq => by simp at hq; omega)⟩
end KII
