def sbind {α β : Type} (r : (α × Nat) ⊕ Nat) (k : α → Nat → (β × Nat) ⊕ Nat) : (β × Nat) ⊕ Nat := match r with
  | .inr b => .inr b
  | .inl q => k q.1 q.2
def ifP (tb : Nat → Int) (e p : Nat) : (Option TT × Nat) ⊕ Nat := if psP tb e p zIf then sbind (condP tb e 12 (wend tb e (bl tb e p))) (fun t p1 => if sgP tb e p1 44 then .inl (some t, bl tb e p1 + 1) else .inr (bl tb e p1)) else .inl (none, bl tb e p)
def unP (tb : Nat → Int) (e p : Nat) : (Option TT × Nat) ⊕ Nat := if psP tb e p zUnless then sbind (condP tb e 12 (wend tb e (bl tb e p))) (fun t p1 => .inl (some t, p1)) else .inl (none, bl tb e p)
def wiP (tb : Nat → Int) (e p : Nat) : (Int × Nat) ⊕ Nat := if psP tb e p zWithin then (if nmV tb e (bl tb e (wend tb e (bl tb e p))) 1 365 < 0 then .inr (bl tb e (wend tb e (bl tb e p))) else .inl (nmV tb e (bl tb e (wend tb e (bl tb e p))) 1 365, dend tb e (bl tb e (wend tb e (bl tb e p))))) else .inl (-1, bl tb e p)
/-- a sentence: its body, days (-1 none), if, unless -/
abbrev Sen : Type := BD × Int × Option TT × Option TT
def sentP (tb : Nat → Int) (e p : Nat) : (Sen × Nat) ⊕ Nat := sbind (ifP tb e p) (fun w p1 => sbind (bodyP tb e p1) (fun b p2 => sbind (unP tb e p2) (fun u p3 => sbind (wiP tb e p3) (fun dy p4 => .inl ((b, dy, w, u), p4)))))
def SenAt (sa : SA) (s : Nat) (x : Sen) : Prop := BodyAt sa s x.1 ∧ sa 25 s = x.2.1 ∧ RowAt sa (2 * s) x.2.2.1 ∧ RowAt sa (2 * s + 1) x.2.2.2
/-- only sentence s and the places may differ -/
def GbS (sa sa' : SA) (s : Nat) : Prop := ∀ a j, a ≠ 29 → a ≠ 30 → a ≠ 31 → ¬ ((a = 21 ∨ a = 23 ∨ a = 24 ∨ a = 25 ∨ a = 26) ∧ j = s) → ¬ (a = 22 ∧ 3 * s ≤ j ∧ j < 3 * s + 3) → ¬ (a = 27 ∧ 2 * s ≤ j ∧ j < 2 * s + 2) → ¬ (a = 28 ∧ 840 * s ≤ j ∧ j < 840 * s + 840) → sa' a j = sa a j
theorem GbS.rf {sa : SA} {s : Nat} : GbS sa sa s := fun _ _ _ _ _ _ _ _ _ => rfl
theorem GbS.tr {s1 s2 s3 : SA} {s : Nat} (h1 : GbS s1 s2 s) (h2 : GbS s2 s3 s) : GbS s1 s3 s := fun a j x1 x2 x3 x4 x5 x6 x7 => (h2 a j x1 x2 x3 x4 x5 x6 x7).trans (h1 a j x1 x2 x3 x4 x5 x6 x7)
theorem GbB.S {sa sa' : SA} {s : Nat} (h : GbB sa sa' s) : GbS sa sa' s := fun a j _ _ _ x4 x5 _ _ => h a j (fun e => x4 ⟨by omega, e.2⟩) x5
theorem GbC.S {sa sa' : SA} {s c : Nat} (h : GbC sa sa' c) (hc : c = 2 * s ∨ c = 2 * s + 1) : GbS sa sa' s := fun a j x1 x2 x3 _ _ x6 x7 => h a j x1 x2 x3 (fun e => x6 ⟨e.1, by omega, by omega⟩) (fun e => x7 ⟨e.1, by omega, by omega⟩)
theorem GbS.up {s1 s2 : SA} {s a : Nat} {v : Int} (h : GbS s1 s2 s) (ha : a = 21 ∨ a = 23 ∨ a = 24 ∨ a = 25 ∨ a = 26) : GbS s1 (va_up s2 a (va_up (s2 a) s v)) s := fun c j x1 x2 x3 x4 x5 x6 x7 => by
  rw [← h c j x1 x2 x3 x4 x5 x6 x7]
  by_cases hc : c = a
  · subst hc
    rw [va_up_self, va_up_ne _ _ (fun e => x4 ⟨ha, e⟩)]
  · rw [va_up_ne _ _ hc]
theorem GbS.len {s1 s2 : SA} {s c : Nat} {v : Int} (h : GbS s1 s2 s) (hc : c = 2 * s ∨ c = 2 * s + 1) : GbS s1 (va_up s2 27 (va_up (s2 27) c v)) s := fun a j x1 x2 x3 x4 x5 x6 x7 => by
  rw [← h a j x1 x2 x3 x4 x5 x6 x7]
  by_cases ha : a = 27
  · subst ha
    rw [va_up_self, va_up_ne _ _ (fun e => x6 ⟨rfl, by omega, by omega⟩)]
  · rw [va_up_ne _ _ ha]
theorem GbS.tape {sa sa' : SA} {s : Nat} (h : GbS sa sa' s) : sa' 32 = sa 32 := by
  funext j
  exact h 32 j (by decide) (by decide) (by decide) (by simp) (by simp) (by simp) (by simp)
theorem RowAt.keep {sa sa' : SA} {c : Nat} {o : Option TT} (h : RowAt sa c o) (h1 : sa' 27 c = sa 27 c) (h2 : ∀ j, j < 420 → sa' 28 (c * 420 + j) = sa 28 (c * 420 + j)) : RowAt sa' c o := by
  cases o with
  | none => exact h1.trans h
  | some t =>
    obtain ⟨q1, q2, q3, q4⟩ := h
    exact ⟨h1.trans q1, fun j hj => (h2 j (by omega)).trans (q2 j hj), q3, q4⟩
theorem RowAt.C {sa sa' : SA} {c c2 : Nat} {o : Option TT} (h : RowAt sa c o) (hg : GbC sa sa' c2) (hne : c ≠ c2) : RowAt sa' c o :=
  h.keep (hg 27 c (by decide) (by decide) (by decide) (fun e => hne e.2) (by simp)) (fun j hj => hg 28 _ (by decide) (by decide) (by decide) (by simp) (by omega))
theorem RowAt.B {sa sa' : SA} {c s : Nat} {o : Option TT} (h : RowAt sa c o) (hg : GbB sa sa' s) : RowAt sa' c o :=
  h.keep (hg 27 c (by simp) (by simp)) (fun j hj => hg 28 _ (by simp) (by simp))
theorem BodyAt.C {sa sa' : SA} {s c : Nat} {b : BD} (h : BodyAt sa s b) (hg : GbC sa sa' c) : BodyAt sa' s b := by
  have hk : ∀ a j, a = 21 ∨ a = 22 ∨ a = 23 ∨ a = 24 ∨ a = 26 → sa' a j = sa a j := fun a j ha => hg a j (by omega) (by omega) (by omega) (by omega) (by omega)
  exact ⟨(hk 21 s (by omega)).trans h.1, fun k hkl => (hk 22 _ (by omega)).trans (h.2.1 k hkl), (hk 23 s (by omega)).trans h.2.2.1, (hk 24 s (by omega)).trans h.2.2.2.1, (hk 26 s (by omega)).trans h.2.2.2.2⟩
theorem whoV_rng (tb : Nat → Int) (e p : Nat) : -1 ≤ whoV tb e p ∧ whoV tb e p ≤ 2 := by unfold whoV; repeat' split <;> omega
theorem modV_rng (tb : Nat → Int) (e p : Nat) : -1 ≤ modV tb e p ∧ modV tb e p ≤ 2 := by unfold modV; repeat' split <;> omega
/-- a body that can be read -/
def BOk (b : BD) : Prop := (b.1.length ≤ 3 ∧ 1 ≤ b.1.length ∧ (∀ v ∈ b.1, 0 ≤ v ∧ v ≤ 9) ∧ b.1.Nodup) ∧ (0 ≤ b.2.1 ∧ b.2.1 ≤ 3) ∧ (0 ≤ b.2.2.1 ∧ b.2.2.1 ≤ 2) ∧ (b.2.2.2 = 0 ∨ b.2.2.2 = 1) ∧ (b.2.2.2 = 0 → b.2.1 ≤ 2)
theorem bodyP_ok {tb : Nat → Int} {e p : Nat} (hp : p ≤ e) {b : BD} {q : Nat} (h : bodyP tb e p = .inl (b, q)) : BOk b ∧ q ≤ e := by
  have hb := bl_le (tb := tb) hp
  have hwe := wend_le (tb := tb) hb
  have hwq := whoQ_le (tb := tb) hp
  have hmq := modQ_le (tb := tb) hwq
  have w0 := whoV_rng tb e p
  unfold bodyP at h
  split at h
  · split at h
    · cases h
    · rename_i hm
      have m0 := modV_rng tb e (whoQ tb e p)
      cases hf : actF tb e 3 [] (modQ tb e (whoQ tb e p)) false with
      | inr b1 => rw [hf] at h; cases h
      | inl q1 =>
        rw [hf] at h
        obtain ⟨x1, x2, x3, x4, x5⟩ := actF_ok 3 [] _ false rfl hmq (fun v hv => by cases hv) List.nodup_nil q1.1 q1.2 hf
        cases h
        exact ⟨⟨⟨x1, x2, x3, x4⟩, ⟨by assumption, Int.le_trans w0.2 (by decide)⟩, ⟨Int.not_lt.mp hm, m0.2⟩, Or.inl rfl, fun _ => w0.2⟩, x5⟩
  · split at h
    · cases hf : actF tb e 3 [] (wend tb e (bl tb e p)) true with
      | inr b1 => rw [hf] at h; cases h
      | inl q1 =>
        rw [hf] at h
        obtain ⟨x1, x2, x3, x4, x5⟩ := actF_ok 3 [] _ true rfl hwe (fun v hv => by cases hv) List.nodup_nil q1.1 q1.2 hf
        simp only [] at h
        have m0 := modV_rng tb e q1.2
        have hm2 := modQ_le (tb := tb) x5
        have y1 := wend_le (tb := tb) (bl_le (tb := tb) hm2)
        have y2 := wend_le (tb := tb) (bl_le (tb := tb) y1)
        have y3 := wend_le (tb := tb) (bl_le (tb := tb) y2)
        split at h
        · cases h
        · rename_i hmm
          have m1 : 0 ≤ modV tb e q1.2 := Int.not_lt.mp hmm
          split at h
          · split at h
            · split at h
              · split at h
                · cases h
                · rename_i hw2
                  have w2 := whoV_rng tb e (wend tb e (bl tb e (wend tb e (bl tb e (wend tb e (bl tb e (modQ tb e q1.2)))))))
                  have w3 := Int.not_lt.mp hw2
                  have w4 := Int.le_trans w2.2 (show (2 : Int) ≤ 3 by decide)
                  have y4 := whoQ_le (tb := tb) y3
                  generalize wend tb e (bl tb e (wend tb e (bl tb e (wend tb e (bl tb e (modQ tb e q1.2)))))) = z3 at h w3 w4 y4
                  cases h
                  exact ⟨⟨⟨x1, x2, x3, x4⟩, ⟨w3, w4⟩, ⟨m1, m0.2⟩, Or.inr rfl, fun z => absurd (show (1 : Int) = 0 from z) (by decide)⟩, y4⟩
              · have y5 := bl_le (tb := tb) y2
                generalize bl tb e (wend tb e (bl tb e (wend tb e (bl tb e (modQ tb e q1.2))))) = z5 at h y5
                cases h
                exact ⟨⟨⟨x1, x2, x3, x4⟩, ⟨show (0 : Int) ≤ 3 by decide, show (3 : Int) ≤ 3 by decide⟩, ⟨m1, m0.2⟩, Or.inr rfl, fun z => absurd (show (1 : Int) = 0 from z) (by decide)⟩, y5⟩
            · cases h
          · cases h
    · cases h
set_option maxRecDepth 20000 in
set_option maxHeartbeats 2000000 in
theorem m_readSentence {d p e s : Nat} (hd : 62 ≤ d) (hs : s < 100) {sf : SF} {sa : SA} (h : PD e p sf sa) : MM yX9_readSentence cX9_readSentence 2 (some .boolean) d [.int (iI s)] sf sa (fun r sf' sa' => match sentP (sa 32) e p with
    | .inl q => r = some (.int (iI 1)) ∧ (Gf sf sf' ∧ sf' 22 = q.2) ∧ GbS sa sa' s ∧ SenAt sa' s q.1
    | .inr b => r = some (.int (iI 0)) ∧ (Gf sf sf' ∧ sf' 24 = b) ∧ GbS sa sa' s) := by
  generalize hRES : sentP (sa 32) e p = RES
  unfold sentP at hRES
  refine MM.of2 (by decide +kernel) rfl (Nat.le_of_ble_eq_true rfl) (fun L g hL X C => ?_)
  have failR : ∀ (pc b : Nat) (sfc : SF) (sac : SA) lv, decode cX9_readSentence pc = .ok (.iconst 0, 1) → decode cX9_readSentence (pc + 1) = .ok (.ireturn, 1) → RES = .inr b → Gf sf sfc → sfc 24 = b → GbS sa sac s → X 0 0 L (ov sfc sac g) pc lv [] := by
    intro pc b sfc sac lv d1 d2 hr hg h24 hgb
    subst hr
    refine C.ic d1 ?_
    refine C.retI rfl (by decide) d2 (Nat.le_refl _) (Nat.le_refl _) ⟨_, _, ?_, rfl, rfl⟩
    exact ⟨rfl, ⟨hg, h24⟩, hgb⟩
  have st4 : ∀ (sfc : SF) (sac : SA) (q : Nat) (b : BD) (w u : Option TT), PD e q sfc sac → Gf sf sfc → GbS sa sac s → BodyAt sac s b → RowAt sac (2 * s) w → RowAt sac (2 * s + 1) u → sac 25 s = -1 → sbind (wiP (sa 32) e q) (fun dy p4 => .inl ((b, dy, w, u), p4)) = RES → X 0 0 L (ov sfc sac g) 104 [some (.ref 20), some (.int (iI s))] [] := by
    intro sfc sac q b w u hP hG hgb hB hw hu h25 hr
    have hbq := bl_le (tb := sa 32) hP.2.2.1
    have hwe := wend_le (tb := sa 32) hbq
    have hPs := m_passesG (d := d - 1) (by omega) hP tWithin
    rw [hgb.tape] at hPs
    unfold wiP at hr
    cases c1 : psP (sa 32) e q zWithin with
    | false =>
      rw [c1] at hPs hr
      simp only [Bool.false_eq_true, if_false, sbind] at hPs hr
      subst hr
      refine C.aload_n dX9_readSentence_104 rfl ?_
      refine C.lds dX9_readSentence_105 (j := 32) rfl ?_
      refine C.mcall hL (hPs) cw_X9_passes ml_X9_143 im_X9_passes sl_X9_passes dX9_readSentence_107 rfl rfl (by omega) (Nat.le_refl _) (Nat.le_refl _) (Nat.le_of_ble_eq_true rfl) rfl (fun r107 sf107 sa107 hR107 => ?_)
      obtain ⟨rfl, ⟨k1, k2, k3⟩, ha⟩ := hR107
      rw [ha]
      clear ha
      refine C.if_neI (tgt := 115) dX9_readSentence_110 (by decide) (by decide) (fun hc110 => absurd hc110 (fun h => h rfl)) (fun hc110 => ?_)
      refine C.ic dX9_readSentence_113 ?_
      refine C.retI rfl (by first | rfl | (exact (iI_bool (by first | exact Or.inl rfl | exact Or.inr rfl | assumption)).1)) dX9_readSentence_114 (Nat.le_refl _) (Nat.le_refl _) ⟨_, _, ?_, rfl, rfl⟩
      exact ⟨rfl, ⟨hG.tr k1, k2⟩, hgb, hB, h25, hw, hu⟩
    | true =>
      rw [c1] at hPs hr
      simp only [if_true] at hPs hr
      have hvr := nmV_rng (sa 32) e (bl (sa 32) e (wend (sa 32) e (bl (sa 32) e q))) 1 365
      refine C.aload_n dX9_readSentence_104 rfl ?_
      refine C.lds dX9_readSentence_105 (j := 32) rfl ?_
      refine C.mcall hL (hPs) cw_X9_passes ml_X9_143 im_X9_passes sl_X9_passes dX9_readSentence_107 rfl rfl (by omega) (Nat.le_refl _) (Nat.le_refl _) (Nat.le_of_ble_eq_true rfl) rfl (fun r107 sf107 sa107 hR107 => ?_)
      obtain ⟨rfl, ⟨k1, k2, k3⟩, ha⟩ := hR107
      rw [ha]
      clear ha
      have hq := hP.go (q := wend (sa 32) e (bl (sa 32) e q)) (sa' := sac) k1 k2 hwe rfl
      have hN := m_numberG (d := d - 1) (lo := 1) (hi := 365) (by omega) hq (by omega) (by omega)
      rw [hgb.tape] at hN
      refine C.if_neI (tgt := 115) dX9_readSentence_110 (by decide) (by decide) (fun hc110 => ?_) (fun hc110 => absurd hc110 (by decide))
      refine C.aload_n dX9_readSentence_115 rfl ?_
      refine C.mget hL gf_X9_22 dX9_readSentence_116 rfl ?_
      refine C.iload_n dX9_readSentence_119 rfl ?_
      refine C.aload_n dX9_readSentence_120 rfl ?_
      refine C.ic dX9_readSentence_121 ?_
      refine C.si dX9_readSentence_122 (by decide) ?_
      refine C.mcall hL (hN) cw_X9_number ml_X9_151 im_X9_number sl_X9_number dX9_readSentence_125 rfl rfl (by omega) (Nat.le_refl _) (Nat.le_refl _) (Nat.le_of_ble_eq_true rfl) rfl (fun r125 sf125 sa125 hR125 => ?_)
      obtain ⟨rfl, ⟨n1, n2, n3⟩, ha⟩ := hR125
      rw [ha]
      clear ha
      refine C.mastk hL (ovs_25 _ _ _) dX9_readSentence_128 (by decide) rfl (by decide) rfl (by omega) ?_
      refine C.aload_n dX9_readSentence_129 rfl ?_
      refine C.mget hL gf_X9_22 dX9_readSentence_130 rfl ?_
      refine C.iload_n dX9_readSentence_133 rfl ?_
      refine C.maldk hL dX9_readSentence_134 (by decide) rfl (by decide) rfl (by omega) ?_
      refine C.topI (b := nmV (sa 32) e (bl (sa 32) e (wend (sa 32) e (bl (sa 32) e q))) 1 365) (va_up_self (sac 25) _ _) ?_
      refine C.if_ltI (tgt := 142) dX9_readSentence_135 (by decide) (by omega) (fun hc135 => ?_) (fun hc135 => ?_)
      · refine C.ic dX9_readSentence_142 ?_
        refine C.retI rfl (by first | rfl | (exact (iI_bool (by first | exact Or.inl rfl | exact Or.inr rfl | assumption)).1)) dX9_readSentence_143 (Nat.le_refl _) (Nat.le_refl _) ⟨_, _, ?_, rfl, rfl⟩
        first
          | (rw [if_pos (by assumption)] at hr
             simp only [sbind] at hr
             subst hr
             exact ⟨rfl, ⟨(hG.tr k1).tr n1, n3⟩, hgb.up (by omega)⟩)
          | (rw [if_neg (by assumption)] at hr
             simp only [sbind] at hr
             subst hr
             exact ⟨rfl, ⟨(hG.tr k1).tr n1, n2⟩, hgb.up (by omega), hB, va_up_self (sac 25) _ _, hw, hu⟩)
      · refine C.ic dX9_readSentence_138 ?_
        refine C.goto (tgt := 143) dX9_readSentence_139 (by decide) ?_
        refine C.retI rfl (by first | rfl | (exact (iI_bool (by first | exact Or.inl rfl | exact Or.inr rfl | assumption)).1)) dX9_readSentence_143 (Nat.le_refl _) (Nat.le_refl _) ⟨_, _, ?_, rfl, rfl⟩
        first
          | (rw [if_pos (by assumption)] at hr
             simp only [sbind] at hr
             subst hr
             exact ⟨rfl, ⟨(hG.tr k1).tr n1, n3⟩, hgb.up (by omega)⟩)
          | (rw [if_neg (by assumption)] at hr
             simp only [sbind] at hr
             subst hr
             exact ⟨rfl, ⟨(hG.tr k1).tr n1, n2⟩, hgb.up (by omega), hB, va_up_self (sac 25) _ _, hw, hu⟩)
  have st3 : ∀ (sfc : SF) (sac : SA) (q : Nat) (b : BD) (w : Option TT), PD e q sfc sac → Gf sf sfc → GbS sa sac s → BodyAt sac s b → RowAt sac (2 * s) w → RowAt sac (2 * s + 1) none → sac 25 s = -1 → sbind (unP (sa 32) e q) (fun u p3 => sbind (wiP (sa 32) e p3) (fun dy p4 => .inl ((b, dy, w, u), p4))) = RES → X 0 0 L (ov sfc sac g) 81 [some (.ref 20), some (.int (iI s))] [] := by
    intro sfc sac q b w hP hG hgb hB hw hu h25 hr
    have hbq := bl_le (tb := sa 32) hP.2.2.1
    have hwe := wend_le (tb := sa 32) hbq
    have hPs := m_passesG (d := d - 1) (by omega) hP tUnless
    rw [hgb.tape] at hPs
    unfold unP at hr
    cases c1 : psP (sa 32) e q zUnless with
    | false =>
      rw [c1] at hPs hr
      simp only [Bool.false_eq_true, if_false, sbind] at hPs hr
      refine C.aload_n dX9_readSentence_81 rfl ?_
      refine C.lds dX9_readSentence_82 (j := 31) rfl ?_
      refine C.mcall hL (hPs) cw_X9_passes ml_X9_143 im_X9_passes sl_X9_passes dX9_readSentence_84 rfl rfl (by omega) (Nat.le_refl _) (Nat.le_refl _) (Nat.le_of_ble_eq_true rfl) rfl (fun r84 sf84 sa84 hR84 => ?_)
      obtain ⟨rfl, ⟨k1, k2, k3⟩, ha⟩ := hR84
      rw [ha]
      clear ha
      refine C.if_eqI (tgt := 104) dX9_readSentence_87 (by decide) (by decide) (fun hc87 => ?_) (fun hc87 => absurd hc87 (fun h => h rfl))
      exact st4 _ sac _ b w none (hP.go (sa' := sac) k1 k2 hbq rfl) (hG.tr k1) hgb hB hw hu h25 hr
    | true =>
      rw [c1] at hPs hr
      simp only [if_true] at hPs hr
      refine C.aload_n dX9_readSentence_81 rfl ?_
      refine C.lds dX9_readSentence_82 (j := 31) rfl ?_
      refine C.mcall hL (hPs) cw_X9_passes ml_X9_143 im_X9_passes sl_X9_passes dX9_readSentence_84 rfl rfl (by omega) (Nat.le_refl _) (Nat.le_refl _) (Nat.le_of_ble_eq_true rfl) rfl (fun r84 sf84 sa84 hR84 => ?_)
      obtain ⟨rfl, ⟨k1, k2, k3⟩, ha⟩ := hR84
      rw [ha]
      clear ha
      have hq := hP.go (q := wend (sa 32) e (bl (sa 32) e q)) (sa' := sac) k1 k2 hwe rfl
      have hI := m_readInto (d := d - 1) (c := 2 * s + 1) (by omega) (by omega) hq
      rw [hgb.tape] at hI
      refine C.if_eqI (tgt := 104) dX9_readSentence_87 (by decide) (by decide) (fun hc87 => absurd hc87 (by decide)) (fun hc87 => ?_)
      refine C.aload_n dX9_readSentence_90 rfl ?_
      refine C.ic dX9_readSentence_91 ?_
      refine C.iload_n dX9_readSentence_92 rfl ?_
      refine C.imulI dX9_readSentence_93 ?_
      refine C.ic dX9_readSentence_94 ?_
      refine C.iaddI dX9_readSentence_95 ?_
      refine C.topI (b := ((2 * s + 1 : Nat) : Int)) (by omega) ?_
      refine C.mcall hL (hI) cw_X9_readInto ml_X9_193 im_X9_readInto sl_X9_readInto dX9_readSentence_96 rfl rfl (by omega) (Nat.le_refl _) (Nat.le_refl _) (Nat.le_of_ble_eq_true rfl) rfl (fun r96 sf96 sa96 hR96 => ?_)
      skip
      cases hf : condP (sa 32) e 12 (wend (sa 32) e (bl (sa 32) e q)) with
      | inr b1 =>
        rw [hf] at hR96 hr
        simp only [sbind] at hr
        obtain ⟨rfl, ⟨n1, n2⟩, n3⟩ := hR96
        refine C.if_neI (tgt := 104) dX9_readSentence_99 (by decide) (by decide) (fun h => absurd rfl h) (fun _ => ?_)
        exact failR 102 _ _ _ _ dX9_readSentence_102 dX9_readSentence_103 hr.symm ((hG.tr k1).tr n1) n2 (hgb.tr (n3.S (by omega)))
      | inl q1 =>
        rw [hf] at hR96 hr
        simp only [sbind] at hr
        obtain ⟨rfl, ⟨n1, n2⟩, n3, n4⟩ := hR96
        obtain ⟨g1, g2, g3, g4⟩ := condP_good (sa 32) e 12 _ hwe q1.1 q1.2 hf
        refine C.if_neI (tgt := 104) dX9_readSentence_99 (by decide) (by decide) (fun _ => ?_) (fun h => absurd h (by decide))
        have h32 : sa96 32 = sac 32 := (n3.S (s := s) (by omega)).tape
        exact st4 _ _ _ b w (some q1.1) (hq.go n1 n2 g2 h32) ((hG.tr k1).tr n1) (hgb.tr (n3.S (by omega))) (hB.C n3) (hw.C n3 (by omega)) n4 ((n3 25 s (by decide) (by decide) (by decide) (by simp) (by simp)).trans h25) hr
  have st2 : ∀ (sfc : SF) (sac : SA) (q : Nat) (w : Option TT), PD e q sfc sac → Gf sf sfc → GbS sa sac s → sac 21 s = 0 → sac 26 s = 0 → RowAt sac (2 * s) w → RowAt sac (2 * s + 1) none → sac 25 s = -1 → sbind (bodyP (sa 32) e q) (fun b p2 => sbind (unP (sa 32) e p2) (fun u p3 => sbind (wiP (sa 32) e p3) (fun dy p4 => .inl ((b, dy, w, u), p4)))) = RES → X 0 0 L (ov sfc sac g) 71 [some (.ref 20), some (.int (iI s))] [] := by
    intro sfc sac q w hP hG hgb h21 h26 hw hu h25 hr
    have hM := m_readBody (d := d - 1) (s := s) (by omega) hs hP h21 h26
    rw [hgb.tape] at hM
    refine C.aload_n dX9_readSentence_71 rfl ?_
    refine C.iload_n dX9_readSentence_72 rfl ?_
    refine C.mcall hL (hM) cw_X9_readBody ml_X9_196 im_X9_readBody sl_X9_readBody dX9_readSentence_73 rfl rfl (by omega) (Nat.le_refl _) (Nat.le_refl _) (Nat.le_of_ble_eq_true rfl) rfl (fun r73 sf73 sa73 hR73 => ?_)
    skip
    cases hf : bodyP (sa 32) e q with
    | inr b1 =>
      rw [hf] at hR73 hr
      simp only [sbind] at hr
      obtain ⟨rfl, ⟨n1, n2⟩, n3⟩ := hR73
      refine C.if_neI (tgt := 81) dX9_readSentence_76 (by decide) (by decide) (fun h => absurd rfl h) (fun _ => ?_)
      exact failR 79 _ _ _ _ dX9_readSentence_79 dX9_readSentence_80 hr.symm (hG.tr n1) n2 (hgb.tr n3.S)
    | inl q1 =>
      rw [hf] at hR73 hr
      simp only [sbind] at hr
      obtain ⟨rfl, ⟨n1, n2⟩, n3, n4⟩ := hR73
      obtain ⟨-, g2⟩ := bodyP_ok hP.2.2.1 hf
      refine C.if_neI (tgt := 81) dX9_readSentence_76 (by decide) (by decide) (fun _ => ?_) (fun h => absurd h (by decide))
      exact st3 _ _ _ q1.1 w (hP.go n1 n2 g2 n3.S.tape) (hG.tr n1) (hgb.tr n3.S) n4 (hw.B n3) (hu.B n3) ((n3 25 s (by simp) (by simp)).trans h25) hr
  have st1 : ∀ (sac : SA), PD e p sf sac → GbS sa sac s → sac 21 s = 0 → sac 26 s = 0 → RowAt sac (2 * s) none → RowAt sac (2 * s + 1) none → sac 25 s = -1 → X 0 0 L (ov sf sac g) 41 [some (.ref 20), some (.int (iI s))] [] := by
    intro sac hP hgb h21 h26 hw hu h25
    have hbq := bl_le (tb := sa 32) hP.2.2.1
    have hwe := wend_le (tb := sa 32) hbq
    have hPs := m_passesG (d := d - 1) (by omega) hP tIf
    rw [hgb.tape] at hPs
    unfold ifP at hRES
    cases c1 : psP (sa 32) e p zIf with
    | false =>
      rw [c1] at hPs hRES
      simp only [Bool.false_eq_true, if_false, sbind] at hPs hRES
      refine C.aload_n dX9_readSentence_41 rfl ?_
      refine C.lds dX9_readSentence_42 (j := 30) rfl ?_
      refine C.mcall hL (hPs) cw_X9_passes ml_X9_143 im_X9_passes sl_X9_passes dX9_readSentence_44 rfl rfl (by omega) (Nat.le_refl _) (Nat.le_refl _) (Nat.le_of_ble_eq_true rfl) rfl (fun r44 sf44 sa44 hR44 => ?_)
      obtain ⟨rfl, ⟨k1, k2, k3⟩, ha⟩ := hR44
      rw [ha]
      clear ha
      refine C.if_eqI (tgt := 71) dX9_readSentence_47 (by decide) (by decide) (fun hc47 => ?_) (fun hc47 => absurd hc47 (fun h => h rfl))
      exact st2 _ sac _ none (hP.go (sa' := sac) k1 k2 hbq rfl) k1 hgb h21 h26 hw hu h25 hRES
    | true =>
      rw [c1] at hPs hRES
      simp only [if_true] at hPs hRES
      refine C.aload_n dX9_readSentence_41 rfl ?_
      refine C.lds dX9_readSentence_42 (j := 30) rfl ?_
      refine C.mcall hL (hPs) cw_X9_passes ml_X9_143 im_X9_passes sl_X9_passes dX9_readSentence_44 rfl rfl (by omega) (Nat.le_refl _) (Nat.le_refl _) (Nat.le_of_ble_eq_true rfl) rfl (fun r44 sf44 sa44 hR44 => ?_)
      obtain ⟨rfl, ⟨k1, k2, k3⟩, ha⟩ := hR44
      rw [ha]
      clear ha
      have hq := hP.go (q := wend (sa 32) e (bl (sa 32) e p)) (sa' := sac) k1 k2 hwe rfl
      have hI := m_readInto (d := d - 1) (c := 2 * s) (by omega) (by omega) hq
      rw [hgb.tape] at hI
      refine C.if_eqI (tgt := 71) dX9_readSentence_47 (by decide) (by decide) (fun hc47 => absurd hc47 (by decide)) (fun hc47 => ?_)
      refine C.aload_n dX9_readSentence_50 rfl ?_
      refine C.ic dX9_readSentence_51 ?_
      refine C.iload_n dX9_readSentence_52 rfl ?_
      refine C.imulI dX9_readSentence_53 ?_
      refine C.topI (b := ((2 * s : Nat) : Int)) (by omega) ?_
      refine C.mcall hL (hI) cw_X9_readInto ml_X9_193 im_X9_readInto sl_X9_readInto dX9_readSentence_54 rfl rfl (by omega) (Nat.le_refl _) (Nat.le_refl _) (Nat.le_of_ble_eq_true rfl) rfl (fun r54 sf54 sa54 hR54 => ?_)
      skip
      cases hf : condP (sa 32) e 12 (wend (sa 32) e (bl (sa 32) e p)) with
      | inr b1 =>
        rw [hf] at hR54 hRES
        simp only [sbind] at hRES
        obtain ⟨rfl, ⟨n1, n2⟩, n3⟩ := hR54
        refine C.if_eqI (tgt := 69) dX9_readSentence_57 (by decide) (by decide) (fun _ => ?_) (fun h => absurd rfl h)
        exact failR 69 _ _ _ _ dX9_readSentence_69 dX9_readSentence_70 hRES.symm (k1.tr n1) n2 (hgb.tr (n3.S (by omega)))
      | inl q1 =>
        rw [hf] at hR54 hRES
        simp only [sbind] at hRES
        obtain ⟨rfl, ⟨n1, n2⟩, n3, n4⟩ := hR54
        obtain ⟨g1, g2, g3, g4⟩ := condP_good (sa 32) e 12 _ hwe q1.1 q1.2 hf
        have hG3 := n3.S (s := s) (by omega)
        have hq3 := hq.go n1 n2 g2 hG3.tape
        have hb3 := bl_le (tb := sa 32) g2
        have hS := m_signG (d := d - 1) (c := 44) (by omega) hq3 (by omega)
        rw [hG3.tape, hgb.tape] at hS
        refine C.if_eqI (tgt := 69) dX9_readSentence_57 (by decide) (by decide) (fun h => absurd h (by decide)) (fun _ => ?_)
        refine C.aload_n dX9_readSentence_60 rfl ?_
        refine C.bi dX9_readSentence_61 (by decide) ?_
        refine C.mcall hL hS cw_X9_sign ml_X9_131 im_X9_sign sl_X9_sign dX9_readSentence_63 rfl rfl (by omega) (Nat.le_refl _) (Nat.le_refl _) (Nat.le_of_ble_eq_true rfl) rfl (fun r63 sf63 sa63 hR63 => ?_)
        obtain ⟨rfl, ⟨o1, o2, o3⟩, ha⟩ := hR63
        rw [ha]
        clear ha
        cases c2 : sgP (sa 32) e q1.2 44 with
        | false =>
          rw [c2] at o2 hRES
          simp only [Bool.false_eq_true, if_false] at o2 hRES
          refine C.if_neI (tgt := 71) dX9_readSentence_66 (by decide) (by decide) (fun h => absurd rfl h) (fun _ => ?_)
          exact failR 69 _ _ _ _ dX9_readSentence_69 dX9_readSentence_70 hRES.symm ((k1.tr n1).tr o1) o3 (hgb.tr hG3)
        | true =>
          rw [c2] at o2 hRES
          simp only [if_true] at o2 hRES
          have hlt := sgP_lt c2
          refine C.if_neI (tgt := 71) dX9_readSentence_66 (by decide) (by decide) (fun _ => ?_) (fun h => absurd h (by decide))
          have k25 : ∀ a, a = 21 ∨ a = 25 ∨ a = 26 → sa54 a s = sac a s := fun a ha => n3 a s (by omega) (by omega) (by omega) (by omega) (by omega)
          exact st2 _ _ _ (some q1.1) (hq3.go o1 o2 (by omega) rfl) ((k1.tr n1).tr o1) (hgb.tr hG3) ((k25 21 (by omega)).trans h21) ((k25 26 (by omega)).trans h26) n4 (hu.C n3 (by omega)) ((k25 25 (by omega)).trans h25) hRES
  refine C.aload_n dX9_readSentence_0 rfl ?_
  refine C.mget hL gf_X9_9 dX9_readSentence_1 rfl ?_
  refine C.iload_n dX9_readSentence_4 rfl ?_
  refine C.ic dX9_readSentence_5 ?_
  refine C.mastk hL (ovs_21 _ _ _) dX9_readSentence_6 (by decide) rfl (by decide) rfl (by omega) ?_
  refine C.aload_n dX9_readSentence_7 rfl ?_
  refine C.mget hL gf_X9_25 dX9_readSentence_8 rfl ?_
  refine C.iload_n dX9_readSentence_11 rfl ?_
  refine C.ic dX9_readSentence_12 ?_
  refine C.mastzk hL (ovs_26 _ _ _) dX9_readSentence_13 (by decide) rfl (by decide) rfl (by omega) (by first | exact Or.inl rfl | exact Or.inr rfl | assumption) ?_
  refine C.aload_n dX9_readSentence_14 rfl ?_
  refine C.mget hL gf_X9_22 dX9_readSentence_15 rfl ?_
  refine C.iload_n dX9_readSentence_18 rfl ?_
  refine C.ic dX9_readSentence_19 ?_
  refine C.mastk hL (ovs_25 _ _ _) dX9_readSentence_20 (by decide) rfl (by decide) rfl (by omega) ?_
  refine C.aload_n dX9_readSentence_21 rfl ?_
  refine C.mget hL gf_X9_29 dX9_readSentence_22 rfl ?_
  refine C.ic dX9_readSentence_25 ?_
  refine C.iload_n dX9_readSentence_26 rfl ?_
  refine C.imulI dX9_readSentence_27 ?_
  refine C.ic dX9_readSentence_28 ?_
  refine C.mastk hL (k := 2 * s) (ovs_27 _ _ _) dX9_readSentence_29 (by decide) rfl (by decide) (by omega) (by omega) ?_
  refine C.aload_n dX9_readSentence_30 rfl ?_
  refine C.mget hL gf_X9_29 dX9_readSentence_31 rfl ?_
  refine C.ic dX9_readSentence_34 ?_
  refine C.iload_n dX9_readSentence_35 rfl ?_
  refine C.imulI dX9_readSentence_36 ?_
  refine C.ic dX9_readSentence_37 ?_
  refine C.iaddI dX9_readSentence_38 ?_
  refine C.ic dX9_readSentence_39 ?_
  refine C.mastk hL (k := 2 * s + 1) (ovs_27 _ _ _) dX9_readSentence_40 (by decide) rfl (by decide) (by omega) (by omega) ?_
  refine st1 _ (h.go (q := p) Gf.rf h.1 h.2.2.1 rfl) ?_ (va_up_self (sa 21) _ _) (va_up_self (sa 26) _ _) ?_ ?_ (va_up_self (sa 25) _ _)
  · exact ((((GbS.rf.up (a := 21) (by omega)).up (a := 26) (by omega)).up (a := 25) (by omega)).len (c := 2 * s) (by omega)).len (c := 2 * s + 1) (by omega)
  · show va_up (va_up (sa 27) (2 * s) 0) (2 * s + 1) 0 (2 * s) = 0
    rw [va_up_ne _ _ (by omega), va_up_self]
  · exact va_up_self (va_up (sa 27) (2 * s) 0) _ _
