/-! what is read: a specification by places on the tape -/
abbrev RR : Type := (TT × Nat) ⊕ Nat
abbrev zAnd : List Int := [97, 110, 100]
abbrev zOr : List Int := [111, 114]
abbrev zNot : List Int := [110, 111, 116]
abbrev zCase : List Int := [99, 97, 115, 101]
def bnd (r : RR) (k : TT → Nat → RR) : RR := match r with
  | .inr b => .inr b
  | .inl q => k q.1 q.2
def seqF (tb : Nat → Int) (e : Nat) (zs : List Int) (mk : TT → TT → TT) (f : Nat → RR) : Nat → TT → Nat → RR
  | 0, t, p => .inl (t, bl tb e p)
  | n + 1, t, p => if psP tb e p zs then bnd (f (wend tb e (bl tb e p))) (fun t2 p2 => seqF tb e zs mk f n (mk t t2) p2) else .inl (t, bl tb e p)
def allOf (tb : Nat → Int) (e : Nat) (zs : List Int) (mk : TT → TT → TT) (f : Nat → RR) (p : Nat) : RR := bnd (f p) (fun t p1 => seqF tb e zs mk f (e + 1) t p1)
def itemB (tb : Nat → Int) (e : Nat) (rec : Option (Nat → RR)) (p : Nat) : RR :=
  if sgP tb e p 40 then (match rec with
    | none => .inr (bl tb e p)
    | some f => bnd (allOf tb e zOr .or (allOf tb e zAnd .and f) (bl tb e p + 1)) (fun t p1 => if sgP tb e p1 41 then .inl (t, bl tb e p1 + 1) else .inr (bl tb e p1)))
  else if psP tb e p zNot then (match rec with
    | none => .inr (bl tb e p)
    | some f => bnd (f (wend tb e (bl tb e p))) (fun t p1 => .inl (.not t, p1)))
  else if psP tb e p zCase then (if nmV tb e (bl tb e (wend tb e (bl tb e p))) 0 5 < 0 then .inr (bl tb e (wend tb e (bl tb e p))) else .inl (.count (nmV tb e (bl tb e (wend tb e (bl tb e p))) 0 5).toNat, dend tb e (bl tb e (wend tb e (bl tb e p)))))
  else .inr (bl tb e p)
/-- an item, k more ( and not may stand within one another -/
def itemP (tb : Nat → Int) (e : Nat) : Nat → Nat → RR
  | 0, p => itemB tb e none p
  | k + 1, p => itemB tb e (some (itemP tb e k)) p
def condP (tb : Nat → Int) (e k p : Nat) : RR := allOf tb e zOr .or (allOf tb e zAnd .and (itemP tb e k)) p
/-- what is read lies ahead, and is a tree as short as its text -/
def Good (e : Nat) (f : Nat → RR) : Prop := ∀ p, p ≤ e → ∀ t p1, f p = .inl (t, p1) → p < p1 ∧ p1 ≤ e ∧ isT t ∧ (cd t 0).length + p ≤ p1
theorem cd_len01 (t : TT) (m : Nat) : (cd t m).length ≤ (cd t 0).length := by
  cases t with
  | and a b => simp only [cd, List.length_append]; split <;> simp
  | or a b => simp only [cd, List.length_append]; split <;> simp
  | _ => simp [cd]
theorem psP_len {tb : Nat → Int} {e p : Nat} {zs : List Int} (h : psP tb e p zs = true) : wend tb e (bl tb e p) = bl tb e p + zs.length := by
  unfold psP isW at h
  simp only [Bool.and_eq_true, decide_eq_true_eq] at h
  exact h.1
theorem bl_ge (tb : Nat → Int) (e p : Nat) : p ≤ bl tb e p := (sk_ge tb e 32 32 p).1
theorem seqF_good {tb : Nat → Int} {e : Nat} {zs : List Int} {mk : TT → TT → TT} {f : Nat → RR} (hf : Good e f) (hz : 0 < zs.length) (hmk : ∀ a b, isT a → isT b → isT (mk a b) ∧ (cd (mk a b) 0).length ≤ 1 + (cd a 0).length + (cd b 0).length) : ∀ (n : Nat) (t : TT) (p p0 : Nat), p ≤ e → p0 < p → isT t → (cd t 0).length + p0 ≤ p → ∀ t1 p1, seqF tb e zs mk f n t p = .inl (t1, p1) → p0 < p1 ∧ p1 ≤ e ∧ isT t1 ∧ (cd t1 0).length + p0 ≤ p1 := by
  intro n
  induction n with
  | zero =>
    intro t p p0 hp h0 ht hl t1 p1 h
    simp only [seqF] at h
    cases h
    have := bl_ge tb e p
    exact ⟨by omega, bl_le hp, ht, by omega⟩
  | succ n ih =>
    intro t p p0 hp h0 ht hl t1 p1 h
    unfold seqF at h
    split at h
    · rename_i hps
      have hw := psP_len hps
      have hb := bl_le (tb := tb) hp
      have hb2 := bl_ge tb e p
      have hw2 := wend_le (tb := tb) hb
      cases hq : f (wend tb e (bl tb e p)) with
      | inr b => rw [hq] at h; cases h
      | inl q =>
        rw [hq] at h
        obtain ⟨g1, g2, g3, g4⟩ := hf _ hw2 q.1 q.2 hq
        obtain ⟨m1, m2⟩ := hmk t q.1 ht g3
        exact ih _ _ p0 g2 (by omega) m1 (by omega) t1 p1 h
    · cases h
      have := bl_ge tb e p
      exact ⟨by omega, bl_le hp, ht, by omega⟩
theorem allOf_good {tb : Nat → Int} {e : Nat} {zs : List Int} {mk : TT → TT → TT} {f : Nat → RR} (hf : Good e f) (hz : 0 < zs.length) (hmk : ∀ a b, isT a → isT b → isT (mk a b) ∧ (cd (mk a b) 0).length ≤ 1 + (cd a 0).length + (cd b 0).length) : Good e (allOf tb e zs mk f) := by
  intro p hp t p1 h
  unfold allOf at h
  cases hq : f p with
  | inr b => rw [hq] at h; cases h
  | inl q =>
    rw [hq] at h
    obtain ⟨g1, g2, g3, g4⟩ := hf p hp q.1 q.2 hq
    exact seqF_good hf hz hmk _ _ _ p g2 g1 g3 g4 t p1 h
theorem mk_and (a b : TT) (ha : isT a) (hb : isT b) : isT (.and a b) ∧ (cd (.and a b) 0).length ≤ 1 + (cd a 0).length + (cd b 0).length := by
  refine ⟨⟨ha, hb⟩, ?_⟩
  have h1 := cd_len01 a 1
  have h2 := cd_len01 b 1
  simp only [cd, List.length_append]
  simp
  omega
theorem mk_or (a b : TT) (ha : isT a) (hb : isT b) : isT (.or a b) ∧ (cd (.or a b) 0).length ≤ 1 + (cd a 0).length + (cd b 0).length := by
  refine ⟨⟨ha, hb⟩, ?_⟩
  have h1 := cd_len01 a 2
  have h2 := cd_len01 b 2
  simp only [cd, List.length_append]
  simp
  omega
theorem sgP_lt {tb : Nat → Int} {e p : Nat} {c : Int} (h : sgP tb e p c = true) : bl tb e p < e := (inR_lt h).1
theorem nmV_pos {tb : Nat → Int} {e b : Nat} {lo hi : Int} (h0 : 0 ≤ lo) (h : ¬ nmV tb e b lo hi < 0) : b < dend tb e b ∧ nmV tb e b lo hi ≤ hi ∧ 0 ≤ nmV tb e b lo hi := by
  have h1 := (sk_ge tb e 48 57 b).1
  have h2 : b ≤ dend tb e b := h1
  unfold nmV at h ⊢
  split at h
  · omega
  · rename_i hq
    rw [if_neg hq]
    omega
theorem itemB_good {tb : Nat → Int} {e : Nat} {rec : Option (Nat → RR)} (hr : ∀ f, rec = some f → Good e f) : Good e (itemB tb e rec) := by
  intro p hp t p1 h
  have hb := bl_le (tb := tb) hp
  have hb2 := bl_ge tb e p
  unfold itemB at h
  split at h
  · rename_i hs
    have hlt := sgP_lt hs
    cases rec with
    | none => cases h
    | some f =>
      have hg := allOf_good (tb := tb) (zs := zOr) (mk := .or) (allOf_good (tb := tb) (zs := zAnd) (mk := .and) (hr f rfl) (by decide) mk_and) (by decide) mk_or
      cases hq : allOf tb e zOr .or (allOf tb e zAnd .and f) (bl tb e p + 1) with
      | inr b => simp only [hq, bnd] at h; cases h
      | inl q =>
        simp only [hq, bnd] at h
        obtain ⟨g1, g2, g3, g4⟩ := hg _ (by omega) q.1 q.2 hq
        split at h
        · rename_i hs2
          have := sgP_lt hs2
          have := bl_ge tb e q.2
          cases h
          exact ⟨by omega, by omega, g3, by omega⟩
        · cases h
  · split at h
    · rename_i hps
      have hw := psP_len hps
      have hw2 := wend_le (tb := tb) hb
      cases rec with
      | none => cases h
      | some f =>
        cases hq : f (wend tb e (bl tb e p)) with
        | inr b => simp only [hq, bnd] at h; cases h
        | inl q =>
          simp only [hq, bnd] at h
          obtain ⟨g1, g2, g3, g4⟩ := hr f rfl _ hw2 q.1 q.2 hq
          cases h
          simp at hw
          exact ⟨by omega, g2, g3, by simp only [cd, List.length_cons]; omega⟩
    · split at h
      · rename_i hps
        have hw := psP_len hps
        have hw2 := wend_le (tb := tb) hb
        have hb3 := bl_le (tb := tb) hw2
        have hb4 := bl_ge tb e (wend tb e (bl tb e p))
        split at h
        · cases h
        · rename_i hv
          obtain ⟨n1, n2, n3⟩ := nmV_pos (by omega) hv
          have hde : dend tb e (bl tb e (wend tb e (bl tb e p))) ≤ e := sk_le hb3
          cases h
          simp at hw
          exact ⟨by omega, hde, by show _ ≤ 5; omega, by simp only [cd, List.length_singleton]; omega⟩
      · cases h
theorem itemP_good (tb : Nat → Int) (e : Nat) : ∀ k, Good e (itemP tb e k)
  | 0 => itemB_good (fun f h => by cases h)
  | k + 1 => itemB_good (fun f h => by cases h; exact itemP_good tb e k)
theorem allP_good (tb : Nat → Int) (e k : Nat) : Good e (allOf tb e zAnd .and (itemP tb e k)) := allOf_good (itemP_good tb e k) (by decide) mk_and
theorem condP_good (tb : Nat → Int) (e k : Nat) : Good e (condP tb e k) := allOf_good (allP_good tb e k) (by decide) mk_or
theorem sk_end (tb : Nat → Int) (e : Nat) (lo hi : Int) : ∀ (n p : Nat), e - p = n → inR tb e lo hi (sk tb e lo hi p) = false
  | 0, p, hn => by
    have : inR tb e lo hi p = false := by
      cases h : inR tb e lo hi p with
      | false => rfl
      | true => have := inR_lt h; omega
    rw [sk_stop this]
    exact this
  | n + 1, p, hn => by
    cases h : inR tb e lo hi p with
    | false => rw [sk_stop h]; exact h
    | true => rw [sk_go h]; exact sk_end tb e lo hi n (p + 1) (by omega)
theorem bl_bl (tb : Nat → Int) (e p : Nat) : bl tb e (bl tb e p) = bl tb e p := sk_stop (sk_end tb e 32 32 _ p rfl)
/-- point, begin, places -/
def sfR (sf : SF) (p b pl : Int) : SF := va_up (sfP sf p b) 17 pl
theorem sf_ext {s1 s2 : SF} (h17 : s1 17 = s2 17) (h22 : s1 22 = s2 22) (h24 : s1 24 = s2 24) (h26 : s1 26 = s2 26) (h : ∀ j, j ≠ 17 → j ≠ 22 → j ≠ 24 → j ≠ 26 → s1 j = s2 j) : s1 = s2 := by
  funext j
  by_cases a : j = 17
  · rw [a]; exact h17
  by_cases b : j = 22
  · rw [b]; exact h22
  by_cases c : j = 24
  · rw [c]; exact h24
  by_cases d : j = 26
  · rw [d]; exact h26
  exact h j a b c d
theorem sfR_o {sf : SF} {p b pl : Int} {j : Nat} (h1 : j ≠ 17) (h2 : j ≠ 22) (h3 : j ≠ 24) : sfR sf p b pl j = sf j := by
  unfold sfR sfP
  rw [va_up_ne _ _ h1, va_up_ne _ _ h3, va_up_ne _ _ h2]
theorem sfR_R (sf : SF) (p b q p2 b2 q2 : Int) : sfR (sfR sf p b q) p2 b2 q2 = sfR sf p2 b2 q2 := sf_ext rfl rfl rfl rfl (fun j a b c _ => by rw [sfR_o a b c, sfR_o a b c, sfR_o a b c])
theorem sfP_R (sf : SF) (p b q p2 b2 : Int) : sfP (sfR sf p b q) p2 b2 = sfR sf p2 b2 q := sf_ext rfl rfl rfl rfl (fun j a b c _ => by unfold sfP; rw [va_up_ne _ _ c, va_up_ne _ _ b, sfR_o a b c, sfR_o a b c])
theorem sfR_17 (sf : SF) (p b q q2 : Int) : va_up (sfR sf p b q) 17 q2 = sfR sf p b q2 := bx_uu _ _ _ _
theorem sfP_17 (sf : SF) (p b q : Int) (h : sf 17 = q) : sfP sf p b = sfR sf p b q := (up_id (sfP sf p b) 17 q (show sfP sf p b 17 = q from h)).symm
theorem sfR_26 (sf : SF) (p b q x y : Int) (h : sf 26 = y) : va_up (sfR (va_up sf 26 x) p b q) 26 y = sfR sf p b q := sf_ext rfl rfl rfl h.symm (fun j a b c d => by rw [va_up_ne _ _ d, sfR_o a b c, sfR_o a b c, va_up_ne _ _ d])
/-- what a reading method answers: a tree's place, or -1 with begin at the first wrong byte -/
def RP (D : Nat) (res : RR) (pl : Nat) (p : Nat) (sf : SF) (sa : SA) : Option Value → SF → SA → Prop := fun r sf' sa' => match res with
  | .inl q => ∃ (x pl1 : Nat) (b : Int) (fp : List Nat), r = some (.int (iI x)) ∧ sf' = sfR sf q.2 b pl1 ∧ Fr sa sa' pl pl1 ∧ TA (sa' 29) (sa' 30) (sa' 31) D x q.1 fp ∧ fp.Nodup ∧ (∀ k ∈ fp, pl ≤ k ∧ k < pl1) ∧ pl1 + p ≤ pl + q.2 ∧ pl < pl1
  | .inr b => ∃ (p1 pl1 : Int), r = some (.int (iI (-1))) ∧ sf' = sfR sf p1 b pl1 ∧ Fr sa sa' pl 1400
