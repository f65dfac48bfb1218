/-! reading, by the class -/
def nd : TT → Nat
  | .not c => nd c + 1
  | .and a b => nd a + nd b + 1
  | .or a b => nd a + nd b + 1
  | _ => 1
/-- what is read lies ahead, as long as its words -/
def Rd (e : Nat) (f : Nat → RR) : Prop := ∀ p, p ≤ e → (∀ t p1, f p = .inl (t, p1) → p + 5 ≤ p1 ∧ p1 ≤ e ∧ isT t ∧ 5 * lvs t + p ≤ p1 ∧ 3 * nd t + 1 + p ≤ p1) ∧ (∀ b, f p = .inr b → p ≤ b ∧ b ≤ e)
section RDP
variable {tb : Nat → Int} {e : Nat} {zs : List Int} {mk : TT → TT → TT} {f : Nat → RR}
theorem seqF_rd (hf : Rd e f) (hz : 2 ≤ zs.length) (hmk : ∀ a b, isT a → isT b → isT (mk a b) ∧ lvs (mk a b) = lvs a + lvs b ∧ nd (mk a b) = nd a + nd b + 1) : ∀ (n : Nat) (t : TT) (p p0 : Nat), p ≤ e → p0 + 5 ≤ p → isT t → 5 * lvs t + p0 ≤ p → 3 * nd t + 1 + p0 ≤ p → (∀ t1 p1, seqF tb e zs mk f n t p = .inl (t1, p1) → p ≤ p1 ∧ p1 ≤ e ∧ isT t1 ∧ 5 * lvs t1 + p0 ≤ p1 ∧ 3 * nd t1 + 1 + p0 ≤ p1) ∧ (∀ b, seqF tb e zs mk f n t p = .inr b → p ≤ b ∧ b ≤ e) := by
  intro n
  induction n with
  | zero =>
    intro t p p0 hp h5 ht h1 h2
    have hb := bl_ge tb e p
    have hbe : bl tb e p ≤ e := bl_le hp
    refine ⟨fun t1 p1 h => ?_, fun b h => by cases h⟩
    unfold seqF at h
    cases h
    exact ⟨hb, hbe, ht, by omega, by omega⟩
  | succ n ih =>
    intro t p p0 hp h5 ht h1 h2
    have hb := bl_ge tb e p
    have hbe : bl tb e p ≤ e := bl_le hp
    unfold seqF
    cases hps : psP tb e p zs with
    | false =>
      rw [if_neg (by decide)]
      refine ⟨fun t1 p1 h => ?_, fun b h => by cases h⟩
      cases h
      exact ⟨hb, hbe, ht, by omega, by omega⟩
    | true =>
      rw [if_pos rfl]
      have hl := psP_len hps
      have hwe : wend tb e (bl tb e p) ≤ e := wend_le hbe
      obtain ⟨g1, g2⟩ := hf _ hwe
      cases hq : f (wend tb e (bl tb e p)) with
      | inr b0 =>
        have := g2 b0 hq
        refine ⟨(fun t1 p1 h => by cases h), fun b h => ?_⟩
        cases h
        omega
      | inl q =>
        obtain ⟨t2, p2⟩ := q
        obtain ⟨a1, a2, a3, a4, a5⟩ := g1 t2 p2 hq
        obtain ⟨m1, m2, m3⟩ := hmk t t2 ht a3
        obtain ⟨i1, i2⟩ := ih (mk t t2) p2 p0 a2 (by omega) m1 (by omega) (by omega)
        refine ⟨fun t1 p1 h => ?_, fun b h => ?_⟩
        · have := i1 t1 p1 h
          exact ⟨by omega, this.2⟩
        · have := i2 b h
          omega
theorem allOf_rd (hf : Rd e f) (hz : 2 ≤ zs.length) (hmk : ∀ a b, isT a → isT b → isT (mk a b) ∧ lvs (mk a b) = lvs a + lvs b ∧ nd (mk a b) = nd a + nd b + 1) : Rd e (allOf tb e zs mk f) := by
  intro p hp
  obtain ⟨g1, g2⟩ := hf p hp
  unfold allOf
  cases hq : f p with
  | inr b0 =>
    refine ⟨(fun t1 p1 h => by cases h), fun b h => ?_⟩
    cases h
    exact g2 b0 hq
  | inl q =>
    obtain ⟨t, p1⟩ := q
    obtain ⟨a1, a2, a3, a4, a5⟩ := g1 t p1 hq
    obtain ⟨i1, i2⟩ := seqF_rd (tb := tb) hf hz hmk (e + 1) t p1 p a2 a1 a3 a4 a5
    refine ⟨fun t1 p2 h => ?_, fun b h => ?_⟩
    · obtain ⟨b1, b2, b3, b4, b5⟩ := i1 t1 p2 h
      exact ⟨by omega, b2, b3, b4, b5⟩
    · have := i2 b h
      omega
theorem mkA_rd (a b : TT) (ha : isT a) (hb : isT b) : isT (.and a b) ∧ lvs (.and a b) = lvs a + lvs b ∧ nd (.and a b) = nd a + nd b + 1 := ⟨⟨ha, hb⟩, rfl, rfl⟩
theorem mkO_rd (a b : TT) (ha : isT a) (hb : isT b) : isT (.or a b) ∧ lvs (.or a b) = lvs a + lvs b ∧ nd (.or a b) = nd a + nd b + 1 := ⟨⟨ha, hb⟩, rfl, rfl⟩
theorem itemB_rd {rec : Option (Nat → RR)} (hr : ∀ f, rec = some f → Rd e f) : Rd e (itemB tb e rec) := by
  intro p hp
  have hb := bl_ge tb e p
  have hbe : bl tb e p ≤ e := bl_le hp
  unfold itemB
  cases hs : sgP tb e p 40 with
  | true =>
    rw [if_pos rfl]
    have hlt := sgP_lt hs
    cases rec with
    | none =>
      refine ⟨(fun t1 p1 h => by cases h), fun b h => ?_⟩
      cases h
      omega
    | some f =>
      have hf := hr f rfl
      have hc : Rd e (allOf tb e zOr .or (allOf tb e zAnd .and f)) := allOf_rd (allOf_rd hf (by decide) mkA_rd) (by decide) mkO_rd
      obtain ⟨g1, g2⟩ := hc (bl tb e p + 1) (by omega)
      simp only []
      cases hq : allOf tb e zOr .or (allOf tb e zAnd .and f) (bl tb e p + 1) with
      | inr b0 =>
        have := g2 b0 hq
        refine ⟨(fun t1 p1 h => by cases h), fun b h => ?_⟩
        cases h
        omega
      | inl q =>
        obtain ⟨t, p1⟩ := q
        obtain ⟨a1, a2, a3, a4, a5⟩ := g1 t p1 hq
        have hb1 := bl_ge tb e p1
        have hbe1 : bl tb e p1 ≤ e := bl_le a2
        show (∀ t1 p2, (if sgP tb e p1 41 = true then (Sum.inl (t, bl tb e p1 + 1) : RR) else .inr (bl tb e p1)) = .inl (t1, p2) → _) ∧ (∀ b, (if sgP tb e p1 41 = true then (Sum.inl (t, bl tb e p1 + 1) : RR) else .inr (bl tb e p1)) = .inr b → _)
        cases hs1 : sgP tb e p1 41 with
        | true =>
          have hlt1 := sgP_lt hs1
          rw [if_pos rfl]
          refine ⟨fun t1 p2 h => ?_, fun b h => by cases h⟩
          cases h
          exact ⟨by omega, by omega, a3, by omega, by omega⟩
        | false =>
          rw [if_neg (by decide)]
          refine ⟨(fun t1 p2 h => by cases h), fun b h => ?_⟩
          cases h
          omega
  | false =>
    rw [if_neg (by decide)]
    cases hn : psP tb e p zNot with
    | true =>
      rw [if_pos rfl]
      have hl := psP_len hn
      have hwe : wend tb e (bl tb e p) ≤ e := wend_le hbe
      cases rec with
      | none =>
        refine ⟨(fun t1 p1 h => by cases h), fun b h => ?_⟩
        cases h
        omega
      | some f =>
        have hf := hr f rfl
        obtain ⟨g1, g2⟩ := hf _ hwe
        simp only []
        change wend tb e (bl tb e p) = bl tb e p + 3 at hl
        cases hq : f (wend tb e (bl tb e p)) with
        | inr b0 =>
          have := g2 b0 hq
          refine ⟨(fun t1 p1 h => by cases h), fun b h => ?_⟩
          cases h
          omega
        | inl q =>
          obtain ⟨t, p1⟩ := q
          obtain ⟨a1, a2, a3, a4, a5⟩ := g1 t p1 hq
          refine ⟨fun t1 p2 h => ?_, fun b h => by cases h⟩
          cases h
          refine ⟨by omega, a2, a3, ?_, ?_⟩
          · simp only [lvs]; omega
          · simp only [nd]; omega
    | false =>
      rw [if_neg (by decide)]
      cases hc : psP tb e p zCase with
      | true =>
        rw [if_pos rfl]
        have hl := psP_len hc
        have hwe : wend tb e (bl tb e p) ≤ e := wend_le hbe
        have hb2 := bl_ge tb e (wend tb e (bl tb e p))
        have hbe2 : bl tb e (wend tb e (bl tb e p)) ≤ e := bl_le hwe
        change wend tb e (bl tb e p) = bl tb e p + 4 at hl
        by_cases hv : nmV tb e (bl tb e (wend tb e (bl tb e p))) 0 5 < 0
        · rw [if_pos hv]
          refine ⟨(fun t1 p1 h => by cases h), fun b h => ?_⟩
          cases h
          omega
        · rw [if_neg hv]
          obtain ⟨n1, n2, n3⟩ := nmV_pos (Int.le_refl 0) hv
          have hde : dend tb e (bl tb e (wend tb e (bl tb e p))) ≤ e := sk_le hbe2
          refine ⟨fun t1 p1 h => ?_, fun b h => by cases h⟩
          cases h
          refine ⟨by omega, hde, ?_, ?_, ?_⟩
          · show (nmV tb e (bl tb e (wend tb e (bl tb e p))) 0 5).toNat ≤ 5
            omega
          · show 5 * 1 + p ≤ _
            omega
          · show 3 * 1 + 1 + p ≤ _
            omega
      | false =>
        rw [if_neg (by decide)]
        refine ⟨(fun t1 p1 h => by cases h), fun b h => ?_⟩
        cases h
        omega
theorem itemP_rd (tb : Nat → Int) (e : Nat) : ∀ k, Rd e (itemP tb e k)
  | 0 => itemB_rd (fun f h => by cases h)
  | k + 1 => itemB_rd (fun f h => by cases h; exact itemP_rd tb e k)
end RDP
/-- all that lived is as it was, but for E -/
def FE (E : List Nat) (L : List Nat) (f : Nat → AC) (L' : List Nat) (f' : Nat → AC) : Prop := (∀ q ∈ L, q ∈ L') ∧ ∀ q ∈ L, q ∉ E → f' q = f q
section FEE
variable {E E' L L1 L2 L' : List Nat} {f f1 f2 f' : Nat → AC}
theorem FE.rf : FE E L f L f := ⟨fun _ h => h, fun _ _ _ => rfl⟩
theorem FE.tr (h1 : FE E L f L1 f1) (h2 : FE E L1 f1 L2 f2) : FE E L f L2 f2 := ⟨fun q hq => h2.1 q (h1.1 q hq), fun q hq he => (h2.2 q (h1.1 q hq) he).trans (h1.2 q hq he)⟩
theorem FE.mono (h : FE E L f L' f') (hE : ∀ q ∈ E, q ∈ E') : FE E' L f L' f' := ⟨h.1, fun q hq he => h.2 q hq (fun h => he (hE q h))⟩
theorem Fo.e (h : Fo L f L' f') : FE E L f L' f' := ⟨h.1, fun q hq _ => h.2 q hq⟩
theorem FE.p (h : FE E L f L' f') (hE : ∀ q ∈ E, q < 2000) : Fp L f L' f' := ⟨h.1, fun q hq h2 _ => h.2 q hq (fun he => by have := hE q he; omega)⟩
end FEE
section KVL
variable {c c2 : SF} {a a2 : SA} {f f' g g' : Nat → AC} {q : Nat}
theorem kv_ge (h : 17 ≤ q) : kv c a g q = g q := by
  unfold kv
  repeat rw [if_neg (by omega)]
theorem kv_lo (h : q < 17) : kv c a g q = kv c a g' q := by
  rcases (show q = 0 ∨ q = 1 ∨ q = 2 ∨ q = 3 ∨ q = 4 ∨ q = 5 ∨ q = 6 ∨ q = 7 ∨ q = 8 ∨ q = 9 ∨ q = 10 ∨ q = 11 ∨ q = 12 ∨ q = 13 ∨ q = 14 ∨ q = 15 ∨ q = 16 by omega) with h | h | h | h | h | h | h | h | h | h | h | h | h | h | h | h | h <;> subst h <;> rfl
theorem kv_to (hK : f = kv c a f) (hF : ∀ q, q < 17 → f' q = f q) : f' = kv c a f' := by
  funext q
  by_cases h : q < 17
  · rw [hF q h, kv_lo (g' := f) h, ← hK]
  · rw [kv_ge (by omega)]
theorem kv_idem : kv c a (kv c2 a2 g) = kv c a g := by
  funext q
  by_cases h : q < 17
  · exact kv_lo h
  · rw [kv_ge (by omega), kv_ge (by omega), kv_ge (by omega)]
theorem kv65 {z : Int} (h : q ≠ 6) : kv (va_up c 65 z) a g q = kv c a g q := by
  rw [← kvp_65]
  exact va_up_ne _ _ h
end KVL
section RSS
variable (tb : Nat → Int) (e : Nat) (ts : List (Int × Int × Int)) (c : SF) (a : SA)
/-- the reader stands at the thing i, which is the one at p -/
def RS (L : List Nat) (f : Nat → AC) (i p : Nat) : Prop := f = kv (va_up c 65 (i : Int)) a f ∧ (∀ k, k < 36 → k ∈ L) ∧ TsAt (va_up c 65 (i : Int)) a ts e i ∧ T18 L f ∧ Tk tb e ts i p
/-- the reader stopped at the thing i, which begins at b -/
def RE (L : List Nat) (f : Nat → AC) (i b : Nat) : Prop := f = kv (va_up c 65 (i : Int)) a f ∧ (∀ k, k < 36 → k ∈ L) ∧ TsAt (va_up c 65 (i : Int)) a ts e i ∧ T18 L f ∧ tkBeg ts i e = (b : Int)
end RSS
section RSL
variable {tb : Nat → Int} {e i p d : Nat} {ts : List (Int × Int × Int)} {c : SF} {a : SA} {L L' : List Nat} {f f' : Nat → AC}
theorem KA.at {y : MethodName} {cc : ByteArray} {nL : Nat} {rt : Option FieldType} {as : List Value} {R : Option Value → SF → SA → Prop} (h : KA y cc nL rt d as L f c a R) (hK : f = kv c a f) : AM y cc nL rt d 0 0 as L f (KPo L f R) := by
  unfold KA at h
  rw [← hK] at h
  exact h
theorem RS.re (h : RS tb e ts c a L f i p) : RE e ts c a L f i (bl tb e p) := ⟨h.1, h.2.1, h.2.2.1, h.2.2.2.1, tk_beg h.2.2.2.2⟩
theorem RS.bl (h : RS tb e ts c a L f i p) : RS tb e ts c a L f i (bl tb e p) := ⟨h.1, h.2.1, h.2.2.1, h.2.2.2.1, h.2.2.2.2.bl⟩
theorem RS.keep (h : RS tb e ts c a L f i p) (hF : Fo L f L' f') : RS tb e ts c a L' f' i p := by
  obtain ⟨h1, h2, h3, h4, h5⟩ := h
  exact ⟨kv_to h1 (fun q hq => hF.2 q (h2 q (by omega))), fun k hk => hF.1 k (h2 k hk), h3, ⟨hF.1 _ h4.1, (hF.2 _ h4.1).trans h4.2⟩, h5⟩
theorem RS.o3 (h : RS tb e ts c a L f i p) : 3 ∈ L ∧ f 3 = .inr (5, ko3 c) := ⟨h.2.1 3 (by omega), by rw [h.1]; rfl⟩
theorem RS.o6 (h : RS tb e ts c a L f i p) : 6 ∈ L ∧ f 6 = .inr (8, ko6 (va_up c 65 (i : Int))) := ⟨h.2.1 6 (by omega), by rw [h.1]; rfl⟩
theorem RS.step {j q : Nat} (h : RS tb e ts c a L f i p) (hj : j ≤ ts.length) (hT : Tk tb e ts j q) : RS tb e ts c a L (kv (va_up c 65 (j : Int)) a f) j q ∧ FE [6] L f L (kv (va_up c 65 (j : Int)) a f) := by
  obtain ⟨h1, h2, h3, h4, h5⟩ := h
  have hq : ∀ q, q ≠ 6 → kv (va_up c 65 (j : Int)) a f q = f q := fun q hq => by
    rw [kv65 hq, ← kv65 (z := (i : Int)) hq]
    exact congrFun h1.symm q
  refine ⟨⟨(kv_idem).symm, h2, ⟨h3.1, h3.2.1, h3.2.2.1, h3.2.2.2.1, rfl, hj⟩, ⟨h4.1, (hq 18 (by omega)).trans h4.2⟩, hT⟩, ⟨fun _ h => h, fun q _ hE => hq q (fun h => hE (by rw [h]; exact List.mem_cons_self))⟩⟩
/-- a thing is taken, or not -/
def TkPo (tb : Nat → Int) (e : Nat) (ts : List (Int × Int × Int)) (c : SF) (a : SA) (L : List Nat) (f : Nat → AC) (i : Nat) (b : Bool) (p1 : Nat) : AT := fun r L' f' => r = some (.int (iI (b2i b))) ∧ L' = L ∧ (b = true → RS tb e ts c a L f' (i + 1) p1 ∧ FE [6] L f L f') ∧ (b = false → f' = f)
theorem upSF {c : SF} {z1 z2 : Int} : va_up (va_up c 65 z1) 65 z2 = va_up c 65 z2 := bx_uu _ _ _ _
theorem r_take0 {w : Int} {b : Bool} {p1 : Nat} (hw : i3 w) (h : RS tb e ts c a L f i p) (hb : tkIs ts i w = b) (hT : b = true → Tk tb e ts (i + 1) p1) : AM yX6_take cX6_take 3 (some .boolean) d 0 0 [.ref 6, .int (iI w)] L f (TkPo tb e ts c a L f i b p1) := by
  have hh := h
  obtain ⟨h1, h2, h3, h4, h5⟩ := h
  refine ((k_take (d := d) hw h2 h3).at h1).imp (fun r L' f' hq => ?_)
  obtain ⟨c', a', ⟨q1, q2, q3⟩, q4, q5⟩ := hq
  rw [hb] at q1 q2
  subst q3
  refine ⟨q1, q4, fun hbt => ?_, fun hbf => ?_⟩
  · rw [hbt, if_pos rfl, upSF] at q2
    rw [q5, q2]
    have hi : i + 1 ≤ ts.length := by
      rw [hbt] at hb
      unfold tkIs at hb
      cases hti : ts[i]? with
      | none => rw [hti] at hb; cases hb
      | some t => exact (List.getElem?_eq_some_iff.mp hti).1
    exact hh.step hi (hT hbt)
  · rw [hbf] at q2
    rw [q5, q2]
    exact h1.symm
theorem r_take {w : Nat} (hw : w < 16) (h : RS tb e ts c a L f i p) : AM yX6_take cX6_take 3 (some .boolean) d 0 0 [.ref 6, .int (iI w)] L f (TkPo tb e ts c a L f i (psP tb e p (zW.getD w [])) (wend tb e (bl tb e p))) := by
  obtain ⟨q1, q2⟩ := tk_is hw h.2.2.2.2
  exact r_take0 (by unfold i3; omega) h q1 q2
theorem r_sign {z : Int} {w : Nat} (hc : (z = 40 ∧ w = 18) ∨ (z = 41 ∧ w = 19) ∨ (z = 44 ∧ w = 20) ∨ (z = 59 ∧ w = 21)) (h : RS tb e ts c a L f i p) : AM yX6_take cX6_take 3 (some .boolean) d 0 0 [.ref 6, .int (iI w)] L f (TkPo tb e ts c a L f i (sgP tb e p z) (bl tb e p + 1)) := by
  obtain ⟨q1, q2⟩ := tk_sg hc h.2.2.2.2
  exact r_take0 (by unfold i3; omega) h q1 q2
theorem r_number {lo hi : Int} (hlo : 0 ≤ lo ∧ lo < 1000) (hhi : 0 ≤ hi ∧ hi < 1000) (hd : 1 ≤ d) (h : RS tb e ts c a L f i p) : AM yX6_takeNumber cX6_takeNumber 4 (some .int) d 0 0 [.ref 6, .int (iI lo), .int (iI hi)] L f (fun r L' f' => r = some (.int (iI (nmV tb e (bl tb e p) lo hi))) ∧ L' = L ∧ (¬ nmV tb e (bl tb e p) lo hi < 0 → RS tb e ts c a L f' (i + 1) (dend tb e (bl tb e p)) ∧ FE [6] L f L f') ∧ (nmV tb e (bl tb e p) lo hi < 0 → f' = f)) := by
  have hh := h
  obtain ⟨h1, h2, h3, h4, h5⟩ := h
  obtain ⟨t1, t2⟩ := tk_nm (hi := hi) hlo.1 h5
  refine ((k_takeNumber (d := d) hlo hhi hd h2 h3).at h1).imp (fun r L' f' hq => ?_)
  obtain ⟨c', a', ⟨q1, q2, q3⟩, q4, q5⟩ := hq
  have hpos : ¬ tkNum ts i lo hi < 0 → i + 1 ≤ ts.length := fun hp => by
    unfold tkNum tkVal at hp
    cases hti : ts[i]? with
    | none =>
      rw [hti] at hp
      exact absurd (show (if (-1 : Int) < lo ∨ hi < -1 then (-1 : Int) else -1) < 0 by split <;> decide) hp
    | some t => exact (List.getElem?_eq_some_iff.mp hti).1
  rw [t1] at q1 q2 hpos
  subst q3
  refine ⟨q1, q4, fun hbt => ?_, fun hbf => ?_⟩
  · rw [if_neg hbt, upSF] at q2
    rw [q5, q2]
    exact hh.step (hpos hbt) (t2 hbt)
  · rw [if_pos hbf] at q2
    rw [q5, q2]
    exact h1.symm
end RSL
