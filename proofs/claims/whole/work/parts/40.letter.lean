/-- only the sentences from lo to hi and the places may differ -/
def GbR (lo hi : Nat) (sa sa' : SA) : Prop := ∀ a j, a ≠ 29 → a ≠ 30 → a ≠ 31 → ¬ ((a = 21 ∨ a = 23 ∨ a = 24 ∨ a = 25 ∨ a = 26) ∧ lo ≤ j ∧ j < hi) → ¬ (a = 22 ∧ 3 * lo ≤ j ∧ j < 3 * hi) → ¬ (a = 27 ∧ 2 * lo ≤ j ∧ j < 2 * hi) → ¬ (a = 28 ∧ 840 * lo ≤ j ∧ j < 840 * hi) → sa' a j = sa a j
theorem GbR.rf {lo hi : Nat} {sa : SA} : GbR lo hi sa sa := fun _ _ _ _ _ _ _ _ _ => rfl
theorem GbR.tr {lo hi : Nat} {s1 s2 s3 : SA} (h1 : GbR lo hi s1 s2) (h2 : GbR lo hi s2 s3) : GbR lo hi s1 s3 := fun a j x1 x2 x3 x4 x5 x6 x7 => (h2 a j x1 x2 x3 x4 x5 x6 x7).trans (h1 a j x1 x2 x3 x4 x5 x6 x7)
theorem GbS.R {sa sa' : SA} {s lo hi : Nat} (h : GbS sa sa' s) (h1 : lo ≤ s) (h2 : s < hi) : GbR lo hi sa sa' := fun a j x1 x2 x3 x4 x5 x6 x7 => h a j x1 x2 x3 (by omega) (by omega) (by omega) (by omega)
theorem GbL.R {sa sa' : SA} (h : GbL sa sa') : GbR 48 56 sa sa' := fun a j x1 x2 x3 x4 x5 x6 x7 => h a j x1 x2 x3 x4 (by omega) (by omega) (by omega)
theorem GbR.tape {lo hi : Nat} {sa sa' : SA} (h : GbR lo hi sa sa') : sa' 32 = sa 32 := by
  funext j
  exact h 32 j (by decide) (by decide) (by decide) (by simp) (by simp) (by simp) (by simp)
theorem SenAt.R {lo hi : Nat} {sa sa' : SA} {s : Nat} {x : Sen} (h : SenAt sa s x) (hx : x.1.1.length ≤ 3) (hg : GbR lo hi sa sa') (hne : s < lo ∨ hi ≤ s) : SenAt sa' s x :=
  h.keep (fun a ha => hg a s (by omega) (by omega) (by omega) (by omega) (by omega) (by omega) (by omega)) (fun k hk => hg 22 _ (by decide) (by decide) (by decide) (by omega) (by omega) (by omega) (by omega)) (fun c hc => hg 27 _ (by decide) (by decide) (by decide) (by omega) (by omega) (by omega) (by omega)) (fun j hj => hg 28 _ (by decide) (by decide) (by decide) (by omega) (by omega) (by omega) (by omega))
theorem cpS_S (sa : SA) (fr to : Nat) (h0 : sa 27 (2 * fr) ≤ 420) (h1 : sa 27 (2 * fr + 1) ≤ 420) : GbS sa (cpS sa fr to) to := by
  intro a j x1 x2 x3 x4 x5 x6 x7
  unfold cpS
  by_cases a22 : a = 22
  · subst a22
    rw [if_pos rfl, if_neg (fun e => x5 ⟨rfl, e⟩)]
  rw [if_neg a22]
  by_cases a27 : a = 27
  · subst a27
    rw [if_pos rfl, if_neg (fun e => x6 ⟨rfl, e⟩)]
  rw [if_neg a27]
  by_cases a28 : a = 28
  · subst a28
    rw [if_pos rfl, if_neg (fun e => x7 ⟨rfl, by omega, by omega⟩), if_neg (fun e => x7 ⟨rfl, by omega, by omega⟩)]
  rw [if_neg a28, if_neg x4]
theorem RowAt.len {sa : SA} {c : Nat} {o : Option TT} (h : RowAt sa c o) : 0 ≤ sa 27 c ∧ sa 27 c ≤ 400 := by
  cases o with
  | none => have : sa 27 c = 0 := h; omega
  | some t => obtain ⟨q1, q2, q3, q4⟩ := h; omega
theorem cpS_at {sa : SA} {fr to : Nat} {x : Sen} (h : SenAt sa fr x) (hx : x.1.1.length ≤ 3) : SenAt (cpS sa fr to) to x := by
  obtain ⟨⟨b1, b2, b3, b4, b5⟩, q1, q2, q3⟩ := h
  have k1 : ∀ a, a = 21 ∨ a = 23 ∨ a = 24 ∨ a = 25 ∨ a = 26 → cpS sa fr to a to = sa a fr := fun a ha => by
    unfold cpS
    rw [if_neg (by omega), if_neg (by omega), if_neg (by omega), if_pos ⟨ha, rfl⟩]
  have k27 : ∀ c, c < 2 → cpS sa fr to 27 (2 * to + c) = sa 27 (2 * fr + c) := fun c hc => by
    unfold cpS
    rw [if_neg (by decide), if_pos rfl, if_pos (by omega)]
    congr 1
    omega
  have hl0 := q2.len
  have hl1 := q3.len
  have k28 : ∀ (c j : Nat), c < 2 → (j : Int) < sa 27 (2 * fr + c) → cpS sa fr to 28 ((2 * to + c) * 420 + j) = sa 28 ((2 * fr + c) * 420 + j) := fun c j hc hj => by
    unfold cpS
    rw [if_neg (by decide), if_neg (by decide), if_pos rfl]
    rcases (show c = 0 ∨ c = 1 by omega) with rfl | rfl
    · simp only [Nat.add_zero] at hj ⊢
      rw [if_pos ⟨by omega, by omega, by omega⟩]
      congr 1
      omega
    · rw [if_neg (by omega), if_pos ⟨by omega, by omega, by omega⟩]
      congr 1
      omega
  have row : ∀ (c : Nat) (o : Option TT), c < 2 → RowAt sa (2 * fr + c) o → RowAt (cpS sa fr to) (2 * to + c) o := fun c o hc hr => by
    cases o with
    | none => exact (k27 c hc).trans hr
    | some t =>
      obtain ⟨r1, r2, r3, r4⟩ := hr
      exact ⟨(k27 c hc).trans r1, fun j hj => (k28 c j hc (by omega)).trans (r2 j hj), r3, r4⟩
  refine ⟨⟨(k1 21 (by omega)).trans b1, fun k hk => ?_, (k1 23 (by omega)).trans b3, (k1 24 (by omega)).trans b4, (k1 26 (by omega)).trans b5⟩, (k1 25 (by omega)).trans q1, row 0 _ (by omega) q2, row 1 _ (by omega) q3⟩
  rw [← b2 k hk]
  unfold cpS
  rw [if_pos rfl, if_pos (by omega)]
  congr 1
  omega
/-- a sentence is copied -/
theorem m_copiesS {d : Nat} {sf : SF} {sa : SA} {fr to : Nat} {x : Sen} (hf : fr < 100) (ht : to < 100) (h : SenAt sa fr x) (hx : SOk x) : MM yX9_copies cX9_copies 5 none d [.int (iI fr), .int (iI to)] sf sa (fun r sf' sa' => r = none ∧ sf' = sf ∧ SenAt sa' to x ∧ GbS sa sa' to) :=
  (m_copies hf ht (by have := h.2.2.1.len; omega) (by have := h.2.2.2.len; omega) (by rw [h.1.2.2.2.2]; exact hx.1.2.2.2.1)).imp (fun r sf' sa' hr => by
    obtain ⟨h1, h2, rfl⟩ := hr
    exact ⟨h1, h2, cpS_at h hx.1.1.1, cpS_S sa fr to (by have := h.2.2.1.len; omega) (by have := h.2.2.2.len; omega)⟩)
/-- the sentences xs stand from b on -/
def SensAt (sa : SA) (b : Nat) (xs : List Sen) : Prop := ∀ i x, xs[i]? = some x → SenAt sa (b + i) x
theorem SensAt.R {lo hi b : Nat} {sa sa' : SA} {xs : List Sen} (h : SensAt sa b xs) (hx : ∀ x ∈ xs, SOk x) (hg : GbR lo hi sa sa') (hne : b + xs.length ≤ lo ∨ hi ≤ b) : SensAt sa' b xs := fun i x hi => by
  have hl := (List.getElem?_eq_some_iff.mp hi).1
  exact (h i x hi).R (hx x (List.mem_of_getElem? hi)).1.1.1 hg (by omega)
set_option maxRecDepth 20000 in
theorem m_renews {d : Nat} (hd : 1 ≤ d) {sf : SF} {sa : SA} {xs : List Sen} (h9 : sf 9 = xs.length) (hl : xs.length ≤ 8) (h : SensAt sa 0 xs) (hx : ∀ x ∈ xs, SOk x) : MM yX9_renews cX9_renews 2 none d [] sf sa (fun r sf' sa' => r = none ∧ sf' = va_up sf 10 xs.length ∧ SensAt sa' 24 xs ∧ GbR 24 32 sa sa') := by
  refine MM.of2 (by decide +kernel) rfl (Nat.le_of_ble_eq_true rfl) (fun L g hL X C => ?_)
  have loop : ∀ (n i : Nat) (sac : SA), i + n = xs.length → GbR 24 32 sa sac → (∀ j x, j < i → xs[j]? = some x → SenAt sac (24 + j) x) → X 0 0 L (ov sf sac g) 2 [some (.ref 20), some (.int (iI i))] [] := by
    intro n
    induction n with
    | zero =>
      intro i sac hi hg hs
      refine C.iload_n dX9_renews_2 rfl ?_
      refine C.aload_n dX9_renews_3 rfl ?_
      refine C.mget hL gf_X9_216 dX9_renews_4 rfl ?_
      refine C.icmp_geI (tgt := 27) dX9_renews_7 (by decide) (by omega) (by omega) (fun hc7 => ?_) (fun hc7 => absurd hc7 (by omega))
      refine C.aload_n dX9_renews_27 rfl ?_
      refine C.aload_n dX9_renews_28 rfl ?_
      refine C.mget hL gf_X9_216 dX9_renews_29 rfl ?_
      refine C.topI (b := (xs.length : Int)) h9 ?_
      refine C.mput hL pf_X9_232 dX9_renews_32 (by decide) rfl ?_
      refine C.vret rfl dX9_renews_35 (Nat.le_refl _) (Nat.le_refl _) ⟨_, _, ?_, rfl, rfl⟩
      exact ⟨rfl, rfl, fun j x hj => hs j x (by have := (List.getElem?_eq_some_iff.mp hj).1; omega) hj, hg⟩
    | succ n ih =>
      intro i sac hi hg hs
      have hil : i < xs.length := by omega
      have hxi : xs[i]? = some xs[i] := List.getElem?_eq_getElem hil
      have hsi := (h.R hx hg (Or.inl (by omega))) i _ hxi
      rw [Nat.zero_add] at hsi
      have hM := m_copiesS (d := d - 1) (sf := sf) (fr := i) (to := 24 + i) (by omega) (by omega) hsi (hx _ (List.getElem_mem hil))
      refine C.iload_n dX9_renews_2 rfl ?_
      refine C.aload_n dX9_renews_3 rfl ?_
      refine C.mget hL gf_X9_216 dX9_renews_4 rfl ?_
      refine C.icmp_geI (tgt := 27) dX9_renews_7 (by decide) (by omega) (by omega) (fun hc7 => absurd hc7 (by omega)) (fun hc7 => ?_)
      refine C.aload_n dX9_renews_10 rfl ?_
      refine C.ic dX9_renews_11 ?_
      refine C.iload_n dX9_renews_12 rfl ?_
      refine C.iaddI dX9_renews_13 ?_
      refine C.topI (b := (i : Int)) (by omega) ?_
      refine C.bi dX9_renews_14 (by decide) ?_
      refine C.iload_n dX9_renews_16 rfl ?_
      refine C.iaddI dX9_renews_17 ?_
      refine C.topI (b := ((24 + i : Nat) : Int)) (by omega) ?_
      refine C.mcall hL (hM) cw_X9_copies ml_X9_213 im_X9_copies sl_X9_copies dX9_renews_18 rfl rfl (by omega) (Nat.le_refl _) (Nat.le_refl _) (Nat.le_of_ble_eq_true rfl) rfl (fun r18 sf18 sa18 hR18 => ?_)
      obtain ⟨rfl, hs2, n1, n2⟩ := hR18
      rw [hs2]
      clear hs2
      refine C.iincI dX9_renews_21 rfl (by decide) rfl ?_
      refine C.goto (tgt := 2) dX9_renews_24 (by decide) ?_
      refine ih (i + 1) _ (by omega) (hg.tr (n2.R (by omega) (by omega))) (fun j x hj hjx => ?_)
      by_cases hji : j = i
      · subst hji
        rw [hxi] at hjx
        cases hjx
        exact n1
      · exact (hs j x (by omega) hjx).S (hx x (List.mem_of_getElem? hjx)).1.1.1 n2 (by omega)
  refine C.ic dX9_renews_0 ?_
  refine C.istore_n dX9_renews_1 (by decide) rfl ?_
  exact loop xs.length 0 sa (by omega) GbR.rf (fun j x hj => absurd hj (by omega))
