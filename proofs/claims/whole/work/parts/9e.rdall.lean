/-! a letter, read by the class -/
section SLE
variable {tb : Nat → Int} {e p : Nat}
theorem dend_le (h : p ≤ e) : dend tb e p ≤ e := sk_le h
theorem actF_le : ∀ (n : Nat) (xs : List Int) (p : Nat), p ≤ e → (∀ q, actF tb e n xs p false = .inl q → q.2 ≤ e) ∧ (∀ b, actF tb e n xs p false = .inr b → b ≤ e) := by
  intro n
  induction n with
  | zero =>
    intro xs p hp
    refine ⟨fun q h => ?_, fun b h => ?_⟩
    · rw [actF] at h; cases h
    · rw [actF] at h; cases h; exact hp
  | succ n ih =>
    intro xs p hp
    rw [actF_step]
    have h1 : bl tb e p ≤ e := bl_le hp
    have h2 : wend tb e (bl tb e p) ≤ e := wend_le h1
    have h3 : bl tb e (wend tb e (bl tb e p)) ≤ e := bl_le h2
    have h4 : dend tb e (bl tb e (wend tb e (bl tb e p))) ≤ e := dend_le h3
    split
    · split
      · exact ⟨fun q h => by (cases h), fun b h => by (cases h; omega)⟩
      · unfold rstA
        have h5 : bl tb e (dend tb e (bl tb e (wend tb e (bl tb e p)))) ≤ e := bl_le h4
        have h6 : wend tb e (bl tb e (dend tb e (bl tb e (wend tb e (bl tb e p))))) ≤ e := wend_le h5
        split
        · split
          · exact ⟨fun q h => by (cases h), fun b h => by (cases h; omega)⟩
          · exact ih _ _ h6
        · exact ⟨fun q h => by (cases h; exact h5), fun b h => by (cases h)⟩
    · exact ⟨fun q h => by (cases h), fun b h => by (cases h; omega)⟩
theorem pasP_le {q : List Int × Nat} (hq : q.2 ≤ e) : sEnd (pasP tb e q) ≤ e := by
  have h1 : bl tb e q.2 ≤ e := bl_le hq
  have h2 : modQ tb e q.2 ≤ e := modQ_le hq
  unfold pasP
  generalize modQ tb e q.2 = p2 at *
  have h3 : bl tb e p2 ≤ e := bl_le h2
  have h4 : wend tb e (bl tb e p2) ≤ e := wend_le h3
  generalize wend tb e (bl tb e p2) = p3 at *
  have h5 : bl tb e p3 ≤ e := bl_le h4
  have h6 : wend tb e (bl tb e p3) ≤ e := wend_le h5
  generalize wend tb e (bl tb e p3) = p4 at *
  have h7 : bl tb e p4 ≤ e := bl_le h6
  have h8 : wend tb e (bl tb e p4) ≤ e := wend_le h7
  generalize wend tb e (bl tb e p4) = p5 at *
  have h9 : bl tb e p5 ≤ e := bl_le h8
  have h10 : whoQ tb e p5 ≤ e := whoQ_le h8
  repeat' split
  all_goals (simp only [sEnd]; omega)
theorem bodyP_le (hp : p ≤ e) : sEnd (bodyP tb e p) ≤ e := by
  have h1 : bl tb e p ≤ e := bl_le hp
  by_cases hw : 0 ≤ whoV tb e p
  · rw [bodyP_act hw]
    have h2 : whoQ tb e p ≤ e := whoQ_le hp
    have h3 : bl tb e (whoQ tb e p) ≤ e := bl_le h2
    have h4 : modQ tb e (whoQ tb e p) ≤ e := modQ_le h2
    split
    · exact h3
    · obtain ⟨i1, i2⟩ := actF_le (tb := tb) 3 [] _ h4
      cases hq : actF tb e 3 [] (modQ tb e (whoQ tb e p)) false with
      | inl q => exact i1 q hq
      | inr b => exact i2 b hq
  · unfold bodyP
    rw [if_neg hw]
    cases ha : psP tb e p zAct with
    | false => exact h1
    | true =>
      rw [if_pos rfl, actF_has ha]
      obtain ⟨i1, i2⟩ := actF_le (tb := tb) 3 [] _ hp
      cases hq : actF tb e 3 [] p false with
      | inr b => exact i2 b hq
      | inl q => exact pasP_le (i1 q hq)
theorem wiP_le {β : Type} {k : Int → β} (hp : p ≤ e) : sEnd (sbind (wiP tb e p) (fun dy p4 => .inl (k dy, p4))) ≤ e := by
  have h1 : bl tb e p ≤ e := bl_le hp
  have h2 : wend tb e (bl tb e p) ≤ e := wend_le h1
  have h3 : bl tb e (wend tb e (bl tb e p)) ≤ e := bl_le h2
  have h4 : dend tb e (bl tb e (wend tb e (bl tb e p))) ≤ e := dend_le h3
  unfold wiP
  repeat' split
  all_goals (simp only [sb_r, sb_l, sEnd]; omega)
theorem sentP_le (hp : p ≤ e) : sEnd (sentP tb e p) ≤ e := by
  have un : ∀ (p2 : Nat) (k : Option TT → Int → Sen), p2 ≤ e → sEnd (sbind (unP tb e p2) (fun u p3 => sbind (wiP tb e p3) (fun dy p4 => .inl (k u dy, p4)))) ≤ e := by
    intro p2 k hp2
    have h1 : bl tb e p2 ≤ e := bl_le hp2
    have h2 : wend tb e (bl tb e p2) ≤ e := wend_le h1
    unfold unP
    split
    · obtain ⟨g1, g2⟩ := condP_rd tb e (wend tb e (bl tb e p2)) h2
      cases hq : condP tb e 12 (wend tb e (bl tb e p2)) with
      | inr b => exact (g2 b hq).2
      | inl q => exact wiP_le (k := fun dy => k (some q.1) dy) (g1 q.1 q.2 hq).2.1
    · exact wiP_le (k := fun dy => k none dy) h1
  have bd : ∀ (p1 : Nat) (k : BD → Option TT → Int → Sen), p1 ≤ e → sEnd (sbind (bodyP tb e p1) (fun b p2 => sbind (unP tb e p2) (fun u p3 => sbind (wiP tb e p3) (fun dy p4 => .inl (k b u dy, p4))))) ≤ e := by
    intro p1 k hp1
    have h1 := bodyP_le (tb := tb) hp1
    cases hb : bodyP tb e p1 with
    | inr b => rw [hb] at h1; exact h1
    | inl q => rw [hb] at h1; exact un q.2 (fun u dy => k q.1 u dy) h1
  have h1 : bl tb e p ≤ e := bl_le hp
  have h2 : wend tb e (bl tb e p) ≤ e := wend_le h1
  unfold sentP ifP
  split
  · obtain ⟨g1, g2⟩ := condP_rd tb e (wend tb e (bl tb e p)) h2
    cases hq : condP tb e 12 (wend tb e (bl tb e p)) with
    | inr b => exact (g2 b hq).2
    | inl q =>
      have h3 : q.2 ≤ e := (g1 q.1 q.2 hq).2.1
      have h4 : bl tb e q.2 ≤ e := bl_le h3
      obtain ⟨t, p1⟩ := q
      rw [sb_l]
      cases hsg : sgP tb e p1 44 with
      | false => exact h4
      | true =>
        have hlt := sgP_lt hsg
        exact bd (bl tb e p1 + 1) (fun b u dy => (b, dy, some t, u)) (by omega)
  · exact bd (bl tb e p) (fun b u dy => (b, dy, none, u)) h1
theorem sentP_up (hp : p ≤ e) : p ≤ sEnd (sentP tb e p) := by
  have h0 := bl_ge tb e p
  have h1 : bl tb e p ≤ e := bl_le hp
  have h2 : wend tb e (bl tb e p) ≤ e := wend_le h1
  have h3 := wend_ge tb e (bl tb e p)
  unfold sentP ifP
  split
  · obtain ⟨g1, g2⟩ := condP_rd tb e (wend tb e (bl tb e p)) h2
    cases hq : condP tb e 12 (wend tb e (bl tb e p)) with
    | inr b =>
      have := g2 b hq
      show p ≤ b
      omega
    | inl q =>
      obtain ⟨t, p1⟩ := q
      have h4 := g1 t p1 hq
      have h5 := bl_ge tb e p1
      rw [sb_l]
      cases hsg : sgP tb e p1 44 with
      | false => show p ≤ bl tb e p1; omega
      | true =>
        have hlt := sgP_lt hsg
        have := bdP_up (tb := tb) (e := e) (p := bl tb e p1 + 1) (k := fun b u dy => ((b, dy, some t, u) : Sen)) (by omega) rfl
        rw [if_pos rfl, sb_l]
        omega
  · have := bdP_up (tb := tb) (e := e) (p := bl tb e p) (k := fun b u dy => ((b, dy, none, u) : Sen)) h1 rfl
    rw [sb_l]
    omega
end SLE
section KVT
variable {L L' : List Nat} {f f' g : Nat → AC} {c c' : SF} {a a' : SA} {E : List Nat}
theorem kv_Gt {q : Nat} (h : Gt c c') (hA : Gta a a') (h6 : q ≠ 6) (h7 : q ≠ 7) (h8 : q ≠ 8) (h9 : q ≠ 9) : kv c' a' g q = kv c a g q := by
  have e := fun j (x : j ≠ 63 ∧ j ≠ 64 ∧ j ≠ 65) => h j x.1 x.2.1 x.2.2
  have eA := fun b (x : b ≠ 7 ∧ b ≠ 8 ∧ b ≠ 9) => hA b x.1 x.2.1 x.2.2
  by_cases h17 : 17 ≤ q
  · rw [kv_ge h17, kv_ge h17]
  rcases (show q = 0 ∨ q = 1 ∨ q = 2 ∨ q = 3 ∨ q = 4 ∨ q = 5 ∨ q = 10 ∨ q = 11 ∨ q = 12 ∨ q = 13 ∨ q = 14 ∨ q = 15 ∨ q = 16 by omega) with h0 | h0 | h0 | h0 | h0 | h0 | h0 | h0 | h0 | h0 | h0 | h0 | h0 <;> subst h0
  · show (.inr (10, ko0 c') : AC) = .inr (10, ko0 c)
    unfold ko0
    rw [e 5 (by decide), e 6 (by decide), e 7 (by decide)]
  · show (.inr (7, ko1 c') : AC) = .inr (7, ko1 c)
    unfold ko1
    rw [e 11 (by decide)]
  · show (.inl (0, 400, .inl (fun i => iI (a' 2 i))) : AC) = .inl (0, 400, .inl (fun i => iI (a 2 i)))
    rw [eA 2 (by decide)]
  · show (.inr (5, ko3 c') : AC) = .inr (5, ko3 c)
    unfold ko3
    rw [e 32 (by decide), e 33 (by decide), e 35 (by decide)]
  · rfl
  · show (.inr (2, ko5 c') : AC) = .inr (2, ko5 c)
    unfold ko5
    rw [e 50 (by decide), e 51 (by decide), e 52 (by decide)]
  · show (.inl (1, 3, .inl (fun i => iI (a' 10 i))) : AC) = .inl (1, 3, .inl (fun i => iI (a 10 i)))
    rw [eA 10 (by decide)]
  · show (.inr (9, ko11 c') : AC) = .inr (9, ko11 c)
    unfold ko11
    rw [e 111 (by decide), e 112 (by decide)]
  · show (.inl (0, 400, .inl (fun i => iI (a' 12 i))) : AC) = .inl (0, 400, .inl (fun i => iI (a 12 i)))
    rw [eA 12 (by decide)]
  · rfl
  · show (.inr (2, ko14 c') : AC) = .inr (2, ko14 c)
    unfold ko14
    rw [e 140 (by decide), e 141 (by decide), e 142 (by decide)]
  · rfl
  · show (.inr (2, ko16 c') : AC) = .inr (2, ko16 c)
    unfold ko16
    rw [e 160 (by decide), e 161 (by decide), e 162 (by decide)]
theorem LtAt.keepF {lt e : Nat} {ps : List (Nat × Sen)} (h : LtAt L f lt e ps) (hK : f = kv c a f) (hF : FE E L f L' f') (hE : ∀ q ∈ E, q < 17 ∧ q ≠ lt ∧ q ≠ lt + 1) : LtAt L' f' lt e ps := by
  obtain ⟨⟨h0, h1, h2⟩, ⟨cap, ⟨⟨m, gr, l1, l2, l3, l4⟩, ⟨l5, l6⟩, l7⟩⟩, h4⟩ := h
  refine ⟨⟨h0, hF.1 _ h1, by rw [hF.2 lt h1 (fun h => (hE _ h).2.1 rfl)]; exact h2⟩, ⟨cap, ⟨⟨m, gr, ?_, ?_, l3, fun i y hy => ?_⟩, ⟨hF.1 _ l5, hF.1 _ l6⟩, l7⟩⟩, fun p hp => (h4 p hp).keep (hF.p (fun q hq => by have := (hE q hq).1; omega))⟩
  · rw [hF.2 (lt + 1) l5 (fun h => (hE _ h).2.2 rfl)]; exact l1
  · rw [hF.2 e l6 (fun h => kv_noQ hK (hE _ h).1 l2)]; exact l2
  · obtain ⟨y1, fs, y2⟩ := l4 i y hy
    exact ⟨hF.1 y y1, fs, by rw [hF.2 y y1 (fun h => kv_no6 hK (hE _ h).1 y2)]; exact y2⟩
/-- a letter that the reader doesn't touch -/
theorem LtAt.keepH {lt e e1 : Nat} {ps ps1 : List (Nat × Sen)} (h : LtAt L f lt e ps) (h1 : LtAt L f 4 e1 ps1) (hK : f = kv c a f) (hK' : f' = kv c' a' f') (hG : GR c c' a a') (hF : FH e1 L f L' f') (hlt : lt = 13 ∨ lt = 15) (hee : e = e1 → e = 17) : LtAt L' f' lt e ps := by
  obtain ⟨⟨g0, g1, g2⟩, ⟨cap, ⟨⟨m, gr, l1, l2, l3, l4⟩, ⟨l5, l6⟩, l7⟩⟩, g4⟩ := h
  obtain ⟨cap1, hls1⟩ := h1.2.1
  obtain ⟨-, -, -, n1, q1, hfe1⟩ := hls1.obj
  have hlo : f' lt = f lt ∧ f' (lt + 1) = f (lt + 1) := by
    rw [hK', hK]
    rcases hlt with rfl | rfl
    · refine ⟨rfl, ?_⟩
      show (.inr (2, ko14 c') : AC) = .inr (2, ko14 c)
      unfold ko14
      rw [hG.1 140 (by omega), hG.1 141 (by omega), hG.1 142 (by omega)]
    · refine ⟨rfl, ?_⟩
      show (.inr (2, ko16 c') : AC) = .inr (2, ko16 c)
      unfold ko16
      rw [hG.1 160 (by omega), hG.1 161 (by omega), hG.1 162 (by omega)]
  have he17 : 17 ≤ e := Nat.le_of_not_lt (fun h => kv_noQ hK h l2)
  refine ⟨⟨g0, hF.1 _ g1, hlo.1.trans g2⟩, ⟨cap, ⟨⟨m, gr, hlo.2.trans l1, ?_, l3, fun i y hy => ?_⟩, ⟨hF.1 _ l5, hF.1 _ l6⟩, l7⟩⟩, fun p hp => (g4 p hp).keep ⟨hF.1, fun q hq h2 h5 => hF.2 q hq (by omega) (fun he => absurd (he ▸ hfe1) (h5 _ _))⟩⟩
  · rw [hF.2 e l6 he17 hee]; exact l2
  · obtain ⟨y1, fs, y2⟩ := l4 i y hy
    have hy17 : 17 ≤ y := Nat.le_of_not_lt (fun h => kv_no6 hK h y2)
    exact ⟨hF.1 y y1, fs, by rw [hF.2 y y1 hy17 (fun he => by rw [he, hfe1] at y2; cases y2)]; exact y2⟩
end KVT
