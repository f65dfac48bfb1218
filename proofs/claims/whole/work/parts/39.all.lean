def SOk (x : Sen) : Prop := BOk x.1 ∧ (x.2.1 = -1 ∨ (1 ≤ x.2.1 ∧ x.2.1 ≤ 365))
theorem sentP_ok {tb : Nat → Int} {e p : Nat} (hp : p ≤ e) {x : Sen} {q : Nat} (h : sentP tb e p = .inl (x, q)) : SOk x ∧ q ≤ e := by
  unfold sentP at h
  have hb := bl_le (tb := tb) hp
  cases h1 : ifP tb e p with
  | inr b => rw [h1] at h; cases h
  | inl q1 =>
    rw [h1] at h
    have hq1 : q1.2 ≤ e := by
      unfold ifP at h1
      split at h1
      · cases hc : condP tb e 12 (wend tb e (bl tb e p)) with
        | inr b => rw [hc] at h1; cases h1
        | inl c =>
          rw [hc] at h1
          simp only [sbind] at h1
          obtain ⟨g1, g2, g3, g4⟩ := condP_good tb e 12 _ (wend_le hb) c.1 c.2 hc
          split at h1
          · rename_i hs
            have := sgP_lt hs
            cases h1
            exact this
          · cases h1
      · cases h1
        exact hb
    simp only [sbind] at h
    cases h2 : bodyP tb e q1.2 with
    | inr b => rw [h2] at h; cases h
    | inl q2 =>
      rw [h2] at h
      obtain ⟨hB, hq2⟩ := bodyP_ok hq1 h2
      simp only [] at h
      have hb2 := bl_le (tb := tb) hq2
      cases h3 : unP tb e q2.2 with
      | inr b => rw [h3] at h; cases h
      | inl q3 =>
        rw [h3] at h
        have hq3 : q3.2 ≤ e := by
          unfold unP at h3
          split at h3
          · cases hc : condP tb e 12 (wend tb e (bl tb e q2.2)) with
            | inr b => rw [hc] at h3; cases h3
            | inl c =>
              rw [hc] at h3
              simp only [sbind] at h3
              obtain ⟨g1, g2, g3, g4⟩ := condP_good tb e 12 _ (wend_le hb2) c.1 c.2 hc
              cases h3
              exact g2
          · cases h3
            exact hb2
        simp only [] at h
        have hb3 := bl_le (tb := tb) hq3
        cases h4 : wiP tb e q3.2 with
        | inr b => rw [h4] at h; cases h
        | inl q4 =>
          rw [h4] at h
          simp only [] at h
          cases h
          unfold wiP at h4
          split at h4
          · split at h4
            · cases h4
            · rename_i hv
              have hv2 := hv
              have h9 : 1 ≤ nmV tb e (bl tb e (wend tb e (bl tb e q3.2))) 1 365 := by
                unfold nmV at hv2 ⊢
                split at hv2
                · omega
                · rename_i hq
                  rw [if_neg hq]
                  omega
              have h8 := (nmV_pos (by omega) hv).2.1
              have h7 : dend tb e (bl tb e (wend tb e (bl tb e q3.2))) ≤ e := sk_le (bl_le (wend_le hb3))
              generalize nmV tb e (bl tb e (wend tb e (bl tb e q3.2))) 1 365 = v at h4 h9 h8
              generalize dend tb e (bl tb e (wend tb e (bl tb e q3.2))) = z at h4 h7
              cases h4
              exact ⟨⟨hB, Or.inr ⟨h9, h8⟩⟩, h7⟩
          · cases h4
            exact ⟨⟨hB, Or.inl rfl⟩, hb3⟩
/-- the sentences from p on, xs being read -/
def lettF (tb : Nat → Int) (e : Nat) : Nat → List Sen → Nat → (List Sen × Nat) ⊕ Nat
  | 0, _, p => .inr p
  | m + 1, xs, p => sbind (sentP tb e p) (fun x p1 => if bl tb e p1 = e then .inl (xs ++ [x], e) else if inR tb e 59 59 (bl tb e p1) = true ∧ xs.length + 1 ≠ 8 then lettF tb e m (xs ++ [x]) (bl tb e p1 + 1) else .inr (bl tb e p1))
/-- only the sentences 48 to 55 and the places may differ -/
def GbL (sa sa' : SA) : Prop := ∀ a j, a ≠ 29 → a ≠ 30 → a ≠ 31 → ¬ ((a = 21 ∨ a = 23 ∨ a = 24 ∨ a = 25 ∨ a = 26) ∧ 48 ≤ j ∧ j < 56) → ¬ (a = 22 ∧ 144 ≤ j ∧ j < 168) → ¬ (a = 27 ∧ 96 ≤ j ∧ j < 112) → ¬ (a = 28 ∧ 40320 ≤ j ∧ j < 47040) → sa' a j = sa a j
theorem GbL.rf {sa : SA} : GbL sa sa := fun _ _ _ _ _ _ _ _ _ => rfl
theorem GbL.tr {s1 s2 s3 : SA} (h1 : GbL s1 s2) (h2 : GbL s2 s3) : GbL s1 s3 := fun a j x1 x2 x3 x4 x5 x6 x7 => (h2 a j x1 x2 x3 x4 x5 x6 x7).trans (h1 a j x1 x2 x3 x4 x5 x6 x7)
theorem GbS.L {sa sa' : SA} {s : Nat} (h : GbS sa sa' s) (h1 : 48 ≤ s) (h2 : s < 56) : GbL sa sa' := fun a j x1 x2 x3 x4 x5 x6 x7 => h a j x1 x2 x3 (by omega) (by omega) (by omega) (by omega)
theorem GbL.tape {sa sa' : SA} (h : GbL sa sa') : sa' 32 = sa 32 := by
  funext j
  exact h 32 j (by decide) (by decide) (by decide) (by simp) (by simp) (by simp) (by simp)
theorem SenAt.keep {sa sa' : SA} {s : Nat} {x : Sen} (h : SenAt sa s x) (h1 : ∀ a, a = 21 ∨ a = 23 ∨ a = 24 ∨ a = 25 ∨ a = 26 → sa' a s = sa a s) (h2 : ∀ k, k < x.1.1.length → sa' 22 (3 * s + k) = sa 22 (3 * s + k)) (h3 : ∀ c, c < 2 → sa' 27 (2 * s + c) = sa 27 (2 * s + c)) (h4 : ∀ j, j < 840 → sa' 28 (840 * s + j) = sa 28 (840 * s + j)) : SenAt sa' s x := by
  obtain ⟨⟨b1, b2, b3, b4, b5⟩, q1, q2, q3⟩ := h
  refine ⟨⟨(h1 21 (by omega)).trans b1, fun k hk => (h2 k hk).trans (b2 k hk), (h1 23 (by omega)).trans b3, (h1 24 (by omega)).trans b4, (h1 26 (by omega)).trans b5⟩, (h1 25 (by omega)).trans q1, q2.keep (h3 0 (by omega)) (fun j hj => ?_), q3.keep (h3 1 (by omega)) (fun j hj => ?_)⟩
  · have := h4 j (by omega)
    rw [show 2 * s * 420 + j = 840 * s + j by omega]
    exact this
  · have := h4 (420 + j) (by omega)
    rw [show (2 * s + 1) * 420 + j = 840 * s + (420 + j) by omega]
    exact this
theorem SenAt.S {sa sa' : SA} {s s2 : Nat} {x : Sen} (h : SenAt sa s x) (hx : x.1.1.length ≤ 3) (hg : GbS sa sa' s2) (hne : s ≠ s2) : SenAt sa' s x :=
  h.keep (fun a ha => hg a s (by omega) (by omega) (by omega) (by omega) (by omega) (by omega) (by omega)) (fun k hk => hg 22 _ (by decide) (by decide) (by decide) (by omega) (by omega) (by omega) (by omega)) (fun c hc => hg 27 _ (by decide) (by decide) (by decide) (by omega) (by omega) (by omega) (by omega)) (fun j hj => hg 28 _ (by decide) (by decide) (by decide) (by omega) (by omega) (by omega) (by omega))
set_option maxRecDepth 20000 in
set_option maxHeartbeats 2000000 in
theorem m_readAll {d e : Nat} (hd : 63 ≤ d) {sf : SF} {sa : SA} (h23 : sf 23 = e) (he : e ≤ 400) (htb : TB sa) : MM yX9_readAll cX9_readAll 2 (some .int) d [] sf sa (fun r sf' sa' => match lettF (sa 32) e 8 [] 0 with
    | .inl q => r = some (.int (iI q.1.length)) ∧ Gf sf sf' ∧ GbL sa sa' ∧ q.1.length ≤ 8 ∧ 1 ≤ q.1.length ∧ ∀ i x, q.1[i]? = some x → SenAt sa' (48 + i) x ∧ SOk x
    | .inr b => r = some (.int (iI (-1))) ∧ (Gf sf sf' ∧ sf' 24 = b) ∧ GbL sa sa') := by
  generalize hRES : lettF (sa 32) e 8 [] 0 = RES
  refine MM.of2 (by decide +kernel) rfl (Nat.le_of_ble_eq_true rfl) (fun L g hL X C => ?_)
  have main : ∀ (m : Nat) (xs : List Sen) (p : Nat) (sfc : SF) (sac : SA), xs.length + m = 8 → PD e p sfc sac → Gf sf sfc → GbL sa sac → (∀ i x, xs[i]? = some x → SenAt sac (48 + i) x ∧ SOk x) → lettF (sa 32) e m xs p = RES → 1 ≤ m → X 0 0 L (ov sfc sac g) 7 [some (.ref 20), some (.int (iI xs.length))] [] := by
    intro m
    induction m with
    | zero => intro xs p sfc sac _ _ _ _ _ _ h1; omega
    | succ m ih =>
      intro xs p sfc sac hlen hP hG hgb hxs hres _
      have hM := m_readSentence (d := d - 1) (s := 48 + xs.length) (by omega) (by omega) hP
      rw [hgb.tape] at hM
      unfold lettF at hres
      refine C.aload_n dX9_readAll_7 rfl ?_
      refine C.bi dX9_readAll_8 (by decide) ?_
      refine C.iload_n dX9_readAll_10 rfl ?_
      refine C.iaddI dX9_readAll_11 ?_
      refine C.topI (b := ((48 + xs.length : Nat) : Int)) (by omega) ?_
      refine C.mcall hL (hM) cw_X9_readSentence ml_X9_203 im_X9_readSentence sl_X9_readSentence dX9_readAll_12 rfl rfl (by omega) (Nat.le_refl _) (Nat.le_refl _) (Nat.le_of_ble_eq_true rfl) rfl (fun r12 sf12 sa12 hR12 => ?_)
      skip
      cases hf : sentP (sa 32) e p with
      | inr b1 =>
        rw [hf] at hR12 hres
        simp only [sbind] at hres
        obtain ⟨rfl, ⟨n1, n2⟩, n3⟩ := hR12
        subst hres
        refine C.if_neI (tgt := 20) dX9_readAll_15 (by decide) (by decide) (fun h => absurd rfl h) (fun _ => ?_)
        refine C.ic dX9_readAll_18 ?_
        refine C.retI rfl rfl dX9_readAll_19 (Nat.le_refl _) (Nat.le_refl _) ⟨_, _, ?_, rfl, rfl⟩
        exact ⟨rfl, ⟨hG.tr n1, n2⟩, hgb.tr (n3.L (by omega) (by omega))⟩
      | inl q1 =>
        rw [hf] at hR12 hres
        simp only [sbind] at hres
        obtain ⟨rfl, ⟨n1, n2⟩, n3, n4⟩ := hR12
        obtain ⟨o1, o2⟩ := sentP_ok hP.2.2.1 hf
        have hg2 := hgb.tr (n3.L (by omega) (by omega))
        have hP2 := hP.go n1 n2 o2 n3.tape
        have hb := bl_le (tb := sa 32) o2
        have hBl := m_blanks (d := d - 1) (by omega) hP2.1 hP2.2.1 he o2 hP2.2.2.2.2
        rw [hg2.tape] at hBl
        change MM _ _ _ _ _ _ _ _ (fun r sf' sa' => r = none ∧ sf' = sfP sf12 (bl (sa 32) e q1.2) (bl (sa 32) e q1.2) ∧ sa' = sa12) at hBl
        have hxs2 : ∀ i x, (xs ++ [q1.1])[i]? = some x → SenAt sa12 (48 + i) x ∧ SOk x := fun i x hx => by
          by_cases hi : i < xs.length
          · rw [List.getElem?_append_left hi] at hx
            obtain ⟨z1, z2⟩ := hxs i x hx
            exact ⟨z1.S z2.1.1.1 n3 (by omega), z2⟩
          · rw [List.getElem?_append_right (by omega)] at hx
            have hi2 : i - xs.length = 0 := by
              have := (List.getElem?_eq_some_iff.mp hx).1
              simp at this
              omega
            rw [hi2] at hx
            cases hx
            rw [show i = xs.length by omega]
            exact ⟨n4, o1⟩
        refine C.if_neI (tgt := 20) dX9_readAll_15 (by decide) (by decide) (fun _ => ?_) (fun h => absurd h (by decide))
        refine C.iincI dX9_readAll_20 rfl (by decide) rfl ?_
        refine C.aload_n dX9_readAll_23 rfl ?_
        refine C.mcall hL hBl cw_X9_blanks ml_X9_112 im_X9_blanks sl_X9_blanks dX9_readAll_24 rfl rfl (by omega) (Nat.le_refl _) (Nat.le_refl _) (Nat.le_of_ble_eq_true rfl) rfl (fun r24 sf24 sa24 hR24 => ?_)
        obtain ⟨rfl, hs, ha⟩ := hR24
        rw [hs, ha]
        clear hs ha
        have hG3 : Gf sf (sfP sf12 (bl (sa 32) e q1.2) (bl (sa 32) e q1.2)) := (hG.tr n1).tr Gf.P
        have hP3 := hP2.go (q := bl (sa 32) e q1.2) (sf' := sfP sf12 (bl (sa 32) e q1.2) (bl (sa 32) e q1.2)) (sa' := sa12) Gf.P rfl hb rfl
        refine C.aload_n dX9_readAll_27 rfl ?_
        refine C.mget hL gf_X9_99 dX9_readAll_28 rfl ?_
        refine C.topI (b := (bl (sa 32) e q1.2 : Int)) rfl ?_
        refine C.aload_n dX9_readAll_31 rfl ?_
        refine C.mget hL gf_X9_102 dX9_readAll_32 rfl ?_
        refine C.topI (b := (e : Int)) hP3.2.1 ?_
        refine C.icmp_neI (tgt := 40) dX9_readAll_35 (by decide) (by omega) (by omega) (fun hne => ?_) (fun heq => ?_)
        · have hne2 : ¬ bl (sa 32) e q1.2 = e := by omega
          rw [if_neg hne2] at hres
          have hI := m_isAt (d := d - 1) (lo := 59) (hi := 59) hP3.1 hP3.2.1 he hb hP3.2.2.2.2 (by omega) (by omega)
          rw [hg2.tape] at hI
          refine C.aload_n dX9_readAll_40 rfl ?_
          refine C.bi dX9_readAll_41 (by decide) ?_
          refine C.bi dX9_readAll_43 (by decide) ?_
          refine C.mcall hL hI cw_X9_isAt ml_X9_105 im_X9_isAt sl_X9_isAt dX9_readAll_45 rfl rfl (by omega) (Nat.le_refl _) (Nat.le_refl _) (Nat.le_of_ble_eq_true rfl) rfl (fun r45 sf45 sa45 hR45 => ?_)
          obtain ⟨rfl, hs, ha⟩ := hR45
          rw [hs, ha]
          clear hs ha
          have bad : RES = .inr (bl (sa 32) e q1.2) → ∀ lv, X 0 0 L (ov (sfP sf12 (bl (sa 32) e q1.2) (bl (sa 32) e q1.2)) sa12 g) 57 lv [] := by
            intro hr lv
            subst hr
            refine C.ic dX9_readAll_57 ?_
            refine C.retI rfl rfl dX9_readAll_58 (Nat.le_refl _) (Nat.le_refl _) ⟨_, _, ?_, rfl, rfl⟩
            exact ⟨rfl, ⟨hG3, rfl⟩, hg2⟩
          cases c1 : inR (sa 32) e 59 59 (bl (sa 32) e q1.2) with
          | false =>
            rw [c1] at hres
            refine C.if_eqI (tgt := 57) dX9_readAll_48 (by decide) (by decide) (fun _ => ?_) (fun h => absurd rfl h)
            refine bad ?_ _
            rw [← hres]
            simp
          | true =>
            rw [c1] at hres
            have hlt := (inR_lt c1).1
            refine C.if_eqI (tgt := 57) dX9_readAll_48 (by decide) (by decide) (fun h => absurd h (by decide)) (fun _ => ?_)
            refine C.iload_n dX9_readAll_51 rfl ?_
            refine C.bi dX9_readAll_52 (by decide) ?_
            refine C.icmp_neI (tgt := 59) dX9_readAll_54 (by decide) (by omega) (by omega) (fun h8 => ?_) (fun h8 => ?_)
            · rw [if_pos ⟨rfl, by omega⟩] at hres
              refine C.aload_n dX9_readAll_59 rfl ?_
              refine C.dup dX9_readAll_60 rfl ?_
              refine C.mget hL gf_X9_99 dX9_readAll_61 rfl ?_
              refine C.ic dX9_readAll_64 ?_
              refine C.iaddI dX9_readAll_65 ?_
              refine C.mput hL pf_X9_99 dX9_readAll_66 (by decide) rfl ?_
              refine C.goto (tgt := 7) dX9_readAll_69 (by decide) ?_
              have e1 : ((xs.length : Int) + 1) = ((xs ++ [q1.1]).length : Int) := by simp
              rw [e1]
              exact ih (xs ++ [q1.1]) (bl (sa 32) e q1.2 + 1) _ sa12 (by simp; omega) (hP3.go (Gf.rf.up (by omega)) rfl (by omega) rfl) (hG3.up (by omega)) hg2 hxs2 hres (by omega)
            · refine bad ?_ _
              rw [← hres, if_neg (by omega)]
        · have heq2 : bl (sa 32) e q1.2 = e := by omega
          rw [if_pos heq2] at hres
          subst hres
          refine C.iload_n dX9_readAll_38 rfl ?_
          refine C.retI rfl rfl dX9_readAll_39 (Nat.le_refl _) (Nat.le_refl _) ⟨_, _, ?_, rfl, rfl⟩
          refine ⟨by simp, hG3, hg2, by simp; omega, by simp, hxs2⟩
  refine C.aload_n dX9_readAll_0 rfl ?_
  refine C.ic dX9_readAll_1 ?_
  refine C.mput hL pf_X9_99 dX9_readAll_2 (by decide) rfl ?_
  refine C.ic dX9_readAll_5 ?_
  refine C.istore_n dX9_readAll_6 (by decide) rfl ?_
  exact main 8 [] 0 _ sa rfl ⟨rfl, h23, by omega, he, htb⟩ (Gf.rf.up (by omega)) GbL.rf (fun i x hx => by cases hx) hRES (by omega)
