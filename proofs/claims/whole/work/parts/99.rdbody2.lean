/-! active and passive bodies, read by the class -/
def pasP (tb : Nat → Int) (e : Nat) (q : List Int × Nat) : (BD × Nat) ⊕ Nat := if modV tb e q.2 < 0 then .inr (bl tb e q.2)
        else if psP tb e (modQ tb e q.2) zBe then
          (if psP tb e (wend tb e (bl tb e (modQ tb e q.2))) zDone then
            (if psP tb e (wend tb e (bl tb e (wend tb e (bl tb e (modQ tb e q.2))))) zBy then
              (if whoV tb e (wend tb e (bl tb e (wend tb e (bl tb e (wend tb e (bl tb e (modQ tb e q.2))))))) < 0 then .inr (bl tb e (wend tb e (bl tb e (wend tb e (bl tb e (wend tb e (bl tb e (modQ tb e q.2))))))))
               else .inl ((q.1, whoV tb e (wend tb e (bl tb e (wend tb e (bl tb e (wend tb e (bl tb e (modQ tb e q.2))))))), modV tb e q.2, 1), whoQ tb e (wend tb e (bl tb e (wend tb e (bl tb e (wend tb e (bl tb e (modQ tb e q.2)))))))))
             else .inl ((q.1, 3, modV tb e q.2, 1), bl tb e (wend tb e (bl tb e (wend tb e (bl tb e (modQ tb e q.2)))))))
           else .inr (bl tb e (wend tb e (bl tb e (modQ tb e q.2)))))
        else .inr (bl tb e (modQ tb e q.2))
def abP (r : RLs) (k : List Int × Nat → (BD × Nat) ⊕ Nat) : (BD × Nat) ⊕ Nat := match r with
  | .inr b => .inr b
  | .inl q => k q
section BODY2
variable {tb : Nat → Int} {e i p d : Nat} {ts : List (Int × Int × Int)} {c : SF} {a : SA} {L : List Nat} {g : Nat → AC}
theorem act_noWho (hk : Tk tb e ts i p) (ha : psP tb e p zAct = true) : whoV tb e p = -1 := by
  have h6 : tkIs ts i 6 = true := (tk_is (w := 6) (by omega) hk).1.trans ha
  have h0 : psP tb e p zYou = false := (tk_is (w := 0) (by omega) hk).1.symm.trans (tk_ex h6 (by decide))
  have h1 : psP tb e p zWe = false := (tk_is (w := 1) (by omega) hk).1.symm.trans (tk_ex h6 (by decide))
  have h2 : psP tb e p zThey = false := (tk_is (w := 2) (by omega) hk).1.symm.trans (tk_ex h6 (by decide))
  unfold whoV
  rw [h0, h1, h2]
  rfl
theorem bodyP_pas (hk : Tk tb e ts i p) (ha : psP tb e p zAct = true) : bodyP tb e p = abP (actF tb e 3 [] p false) (pasP tb e) := by
  unfold bodyP
  rw [if_neg (by rw [act_noWho hk ha]; decide), ha, if_pos rfl, actF_has ha]
  cases actF tb e 3 [] p false <;> rfl
theorem bodyP_act (hw : 0 ≤ whoV tb e p) : bodyP tb e p = if modV tb e (whoQ tb e p) < 0 then .inr (bl tb e (whoQ tb e p)) else abP (actF tb e 3 [] (modQ tb e (whoQ tb e p)) false) (fun q => .inl ((q.1, whoV tb e p, modV tb e (whoQ tb e p), 0), q.2)) := by
  unfold bodyP
  rw [if_pos hw]
  split
  · rfl
  · cases actF tb e 3 [] (modQ tb e (whoQ tb e p)) false <;> rfl
/-- what reading a body ends with -/
def BdPo (tb : Nat → Int) (e : Nat) (ts : List (Int × Int × Int)) (c : SF) (a : SA) (res : (BD × Nat) ⊕ Nat) : Option Value → SF → SA → Prop := fun r c' a' => Gr c c' a a' ∧ (match res with
  | .inl q => r = some (.int (iI 1)) ∧ ∃ i', TsAt c' a' ts e i' ∧ Tk tb e ts i' q.2 ∧ AcS c' a' q.1.1 ∧ 1 ≤ q.1.1.length ∧ c' 32 = q.1.2.1 ∧ c' 33 = q.1.2.2.1
  | .inr b => (r = some (.int (iI 0)) ∧ ∃ i', TsAt c' a' ts e i' ∧ tkBeg ts i' e = (b : Int)) ∨ (r = some (.int (iI 1)) ∧ ∃ i' p' xs, TsAt c' a' ts e i' ∧ Tk tb e ts i' p' ∧ AcS c' a' xs ∧ xs.length = 3 ∧ psP tb e p' zAnd = true ∧ bl tb e p' = b ∧ (0 ≤ c' 32 ∧ c' 32 ≤ 2) ∧ (0 ≤ c' 33 ∧ c' 33 ≤ 2)))
theorem up4 {x w y m : Int} : va_up (va_up (va_up (va_up c 65 x) 32 w) 65 y) 33 m = va_up (va_up (va_up c 32 w) 33 m) 65 y := by
  rw [upI (c := c) (p := 65) (q := 32) (by decide), upSF, upI (p := 65) (q := 33) (by decide)]
set_option maxHeartbeats 2000000 in
theorem b_readActive (hd : 5 ≤ d) (hL : ∀ k, k < 36 → k ∈ L) (hT : TsAt c a ts e i) (hk : Tk tb e ts i p) (hna : psP tb e p zAct = false) : KA yX2_readActive cX2_readActive 1 (some .boolean) d [.ref 3] L g c a (BdPo tb e ts c a (bodyP tb e p)) := by
  have M1 := b_readWho (d := d - 1) (g := g) (by omega) hL hT hk
  have wr := whoV_rng tb e p
  refine KA.of (by decide +kernel) rfl (Nat.le_of_ble_eq_true rfl) (fun X C => ?_)
  have no : ∀ c1 a1, BdPo tb e ts c a (bodyP tb e p) (some (.int (iI 0))) c1 a1 → X 0 0 L (kv c1 a1 g) 25 [some (.ref 3)] [] := by
    intro c1 a1 hP
    refine C.ic dX2_readActive_25 ?_
    refine C.retI rfl (by first | rfl | (exact (iI_bool (by first | exact Or.inl rfl | exact Or.inr rfl | assumption)).1)) dX2_readActive_26 (Nat.le_refl _) (Nat.le_refl _) ⟨_, _, ?_, rfl, rfl⟩
    exact hP
  by_cases hw : 0 ≤ whoV tb e p
  · have hB := bodyP_act hw
    have hm := modV_rng tb e (whoQ tb e p)
    refine C.aload_n dX2_readActive_0 rfl ?_
    refine C.kcall (M1) cw_X2_readWho ml_X2_90 im_X2_readWho sl_X2_readWho dX2_readActive_1 (hL _ (by decide)) rfl rfl rfl (by omega) (Nat.le_refl _) (Nat.le_refl _) (Nat.le_of_ble_eq_true rfl) rfl (fun r1 c1 a1 hR1 => ?_)
    obtain ⟨ha, hy, -⟩ := hR1
    obtain ⟨rfl, hc, hk2, hlt⟩ := hy hw
    rw [hc, ha]
    clear ha hc
    refine C.if_eqI (tgt := 25) dX2_readActive_4 (by decide) (by decide) (fun hc4 => absurd hc4 (by decide)) (fun hc4 => ?_)
    skip
    have hT2 : TsAt (va_up (va_up c 65 ((i + 1 : Nat) : Int)) 32 (whoV tb e p)) a ts e (i + 1) := hT.at hlt
    have hG2 : Gr c (va_up (va_up c 65 ((i + 1 : Nat) : Int)) 32 (whoV tb e p)) a a := (Gr.rf.up (Or.inr (Or.inr (Or.inr rfl)))).up (Or.inl rfl)
    have M2 := b_readMode (d := d - 1) (g := g) (by omega) hL hT2 hk2
    by_cases hmv : modV tb e (whoQ tb e p) < 0
    · rw [if_pos hmv] at hB
      refine C.aload_n dX2_readActive_7 rfl ?_
      refine C.kcall (M2) cw_X2_readMode ml_X2_93 im_X2_readMode sl_X2_readMode dX2_readActive_8 (hL _ (by decide)) rfl rfl rfl (by omega) (Nat.le_refl _) (Nat.le_refl _) (Nat.le_of_ble_eq_true rfl) rfl (fun r8 c8 a8 hR8 => ?_)
      obtain ⟨ha, -, hy⟩ := hR8
      obtain ⟨rfl, hc⟩ := hy hmv
      rw [hc, ha]
      clear ha hc
      refine C.if_eqI (tgt := 25) dX2_readActive_11 (by decide) (by decide) (fun hc11 => ?_) (fun hc11 => absurd hc11 (by decide))
      refine no _ _ ⟨hG2, ?_⟩
      rw [hB]
      exact Or.inl ⟨rfl, i + 1, hT2, tk_beg hk2⟩
    · rw [if_neg hmv] at hB
      refine C.aload_n dX2_readActive_7 rfl ?_
      refine C.kcall (M2) cw_X2_readMode ml_X2_93 im_X2_readMode sl_X2_readMode dX2_readActive_8 (hL _ (by decide)) rfl rfl rfl (by omega) (Nat.le_refl _) (Nat.le_refl _) (Nat.le_of_ble_eq_true rfl) rfl (fun r8 c8 a8 hR8 => ?_)
      obtain ⟨ha, hy, -⟩ := hR8
      obtain ⟨rfl, i2, hc, hk3, hlt3⟩ := hy (by omega)
      rw [up4] at hc
      rw [hc, ha]
      clear ha
      refine C.if_eqI (tgt := 25) dX2_readActive_11 (by decide) (by decide) (fun hc11 => absurd hc11 (by decide)) (fun hc11 => ?_)
      skip
      have hT3 : TsAt (va_up (va_up (va_up c 32 (whoV tb e p)) 33 (modV tb e (whoQ tb e p))) 65 (i2 : Int)) a ts e i2 := hT.at hlt3
      have M3 := b_readActs (d := d - 1) (g := g) (by omega) hL hT3 hk3
      have hG3 : Gr c (va_up (va_up (va_up c 32 (whoV tb e p)) 33 (modV tb e (whoQ tb e p))) 65 (i2 : Int)) a a := ((Gr.rf.up (Or.inl rfl)).up (Or.inr (Or.inl rfl))).up (Or.inr (Or.inr (Or.inr rfl)))
      cases hac : actF tb e 3 [] (modQ tb e (whoQ tb e p)) false with
      | inl q =>
        rw [hac] at M3 hB
        refine C.aload_n dX2_readActive_14 rfl ?_
        refine C.kcall (M3) cw_X2_readActs ml_X2_96 im_X2_readActs sl_X2_readActs dX2_readActive_15 (hL _ (by decide)) rfl rfl rfl (by omega) (Nat.le_refl _) (Nat.le_refl _) (Nat.le_of_ble_eq_true rfl) rfl (fun r15 c15 a15 hR15 => ?_)
        obtain ⟨hG4, q1, q2, rfl, i4, hT4, hk4, hA4, hl4⟩ := hR15
        refine C.if_eqI (tgt := 25) dX2_readActive_18 (by decide) (by decide) (fun hc18 => absurd hc18 (by decide)) (fun hc18 => ?_)
        refine C.ic dX2_readActive_21 ?_
        refine C.goto (tgt := 26) dX2_readActive_22 (by decide) ?_
        refine C.retI rfl (by first | rfl | (exact (iI_bool (by first | exact Or.inl rfl | exact Or.inr rfl | assumption)).1)) dX2_readActive_26 (Nat.le_refl _) (Nat.le_refl _) ⟨_, _, ?_, rfl, rfl⟩
        refine ⟨hG3.tr hG4, ?_⟩
        rw [hB]
        exact ⟨rfl, i4, hT4, hk4, hA4, hl4, q1, q2⟩
      | inr b =>
        rw [hac] at M3 hB
        refine C.aload_n dX2_readActive_14 rfl ?_
        refine C.kcall (M3) cw_X2_readActs ml_X2_96 im_X2_readActs sl_X2_readActs dX2_readActive_15 (hL _ (by decide)) rfl rfl rfl (by omega) (Nat.le_refl _) (Nat.le_refl _) (Nat.le_of_ble_eq_true rfl) rfl (fun r15 c15 a15 hR15 => ?_)
        obtain ⟨hG4, q1, q2, hor⟩ := hR15
        skip
        rcases hor with ⟨rfl, i4, hT4, hb4⟩ | ⟨rfl, i4, p4, xs, hT4, hk4, hA4, hl4, ha4, hb4⟩
        · refine C.if_eqI (tgt := 25) dX2_readActive_18 (by decide) (by decide) (fun hc18 => ?_) (fun hc18 => absurd hc18 (by decide))
          refine no _ _ ⟨hG3.tr hG4, ?_⟩
          rw [hB]
          exact Or.inl ⟨rfl, i4, hT4, hb4⟩
        · refine C.if_eqI (tgt := 25) dX2_readActive_18 (by decide) (by decide) (fun hc18 => absurd hc18 (by decide)) (fun hc18 => ?_)
          refine C.ic dX2_readActive_21 ?_
          refine C.goto (tgt := 26) dX2_readActive_22 (by decide) ?_
          refine C.retI rfl (by first | rfl | (exact (iI_bool (by first | exact Or.inl rfl | exact Or.inr rfl | assumption)).1)) dX2_readActive_26 (Nat.le_refl _) (Nat.le_refl _) ⟨_, _, ?_, rfl, rfl⟩
          refine ⟨hG3.tr hG4, ?_⟩
          rw [hB]
          refine Or.inr ⟨rfl, i4, p4, xs, hT4, hk4, hA4, hl4, ha4, hb4, ?_, ?_⟩
          · rw [q1]; exact ⟨hw, wr.2⟩
          · rw [q2]; exact ⟨by show 0 ≤ modV tb e (whoQ tb e p); omega, hm.2⟩
  · have hB : bodyP tb e p = .inr (bl tb e p) := by unfold bodyP; rw [if_neg hw, hna]; rfl
    refine C.aload_n dX2_readActive_0 rfl ?_
    refine C.kcall (M1) cw_X2_readWho ml_X2_90 im_X2_readWho sl_X2_readWho dX2_readActive_1 (hL _ (by decide)) rfl rfl rfl (by omega) (Nat.le_refl _) (Nat.le_refl _) (Nat.le_of_ble_eq_true rfl) rfl (fun r1 c1 a1 hR1 => ?_)
    obtain ⟨ha, -, hy⟩ := hR1
    obtain ⟨rfl, hc⟩ := hy (by omega)
    rw [hc, ha]
    clear ha hc
    refine C.if_eqI (tgt := 25) dX2_readActive_4 (by decide) (by decide) (fun hc4 => ?_) (fun hc4 => absurd hc4 (by decide))
    refine no _ _ ⟨Gr.rf.up (Or.inl rfl), ?_⟩
    rw [hB]
    exact Or.inl ⟨rfl, i, hT, tk_beg hk⟩
set_option maxHeartbeats 2000000 in
theorem b_readPassive (hd : 5 ≤ d) (hL : ∀ k, k < 36 → k ∈ L) (hT : TsAt c a ts e i) (hk : Tk tb e ts i p) (hna : psP tb e p zAct = true) : KA yX2_readPassive cX2_readPassive 1 (some .boolean) d [.ref 3] L g c a (BdPo tb e ts c a (bodyP tb e p)) := by
  have M1 := b_readActs (d := d - 1) (g := g) (by omega) hL hT hk
  have hB := bodyP_pas hk hna
  refine KA.of (by decide +kernel) rfl (Nat.le_of_ble_eq_true rfl) (fun X C => ?_)
  have no : ∀ c1 a1, BdPo tb e ts c a (bodyP tb e p) (some (.int (iI 0))) c1 a1 → X 0 0 L (kv c1 a1 g) 38 [some (.ref 3)] [] := by
    intro c1 a1 hP
    refine C.ic dX2_readPassive_38 ?_
    refine C.retI rfl (by first | rfl | (exact (iI_bool (by first | exact Or.inl rfl | exact Or.inr rfl | assumption)).1)) dX2_readPassive_39 (Nat.le_refl _) (Nat.le_refl _) ⟨_, _, ?_, rfl, rfl⟩
    exact hP
  cases hac : actF tb e 3 [] p false with
  | inr b =>
    rw [hac] at M1 hB
    change bodyP tb e p = .inr b at hB
    refine C.aload_n dX2_readPassive_0 rfl ?_
    refine C.kcall (M1) cw_X2_readActs ml_X2_96 im_X2_readActs sl_X2_readActs dX2_readPassive_1 (hL _ (by decide)) rfl rfl rfl (by omega) (Nat.le_refl _) (Nat.le_refl _) (Nat.le_of_ble_eq_true rfl) rfl (fun r1 c1 a1 hR1 => ?_)
    obtain ⟨hG4, q1, q2, hor⟩ := hR1
    skip
    rcases hor with ⟨rfl, i4, hT4, hb4⟩ | ⟨rfl, i4, p4, xs, hT4, hk4, hA4, hl4, ha4, hb4⟩
    · refine C.if_eqI (tgt := 38) dX2_readPassive_4 (by decide) (by decide) (fun hc4 => ?_) (fun hc4 => absurd hc4 (by decide))
      refine no _ _ ⟨hG4, ?_⟩
      rw [hB]
      exact Or.inl ⟨rfl, i4, hT4, hb4⟩
    · have h7 : tkIs ts i4 7 = true := (tk_is (w := 7) (by omega) hk4).1.trans ha4
      have hm : modV tb e p4 = -1 := by
        have h5 : psP tb e p4 zMay = false := (tk_is (w := 5) (by omega) hk4).1.symm.trans (tk_ex h7 (by decide))
        have h3 : psP tb e p4 zMust = false := (tk_is (w := 3) (by omega) hk4).1.symm.trans (tk_ex h7 (by decide))
        unfold modV
        rw [h5, h3]
        rfl
      have M2 := b_readMode (d := d - 1) (g := g) (by omega) hL hT4 hk4
      refine C.if_eqI (tgt := 38) dX2_readPassive_4 (by decide) (by decide) (fun hc4 => absurd hc4 (by decide)) (fun hc4 => ?_)
      refine C.aload_n dX2_readPassive_7 rfl ?_
      refine C.kcall (M2) cw_X2_readMode ml_X2_93 im_X2_readMode sl_X2_readMode dX2_readPassive_8 (hL _ (by decide)) rfl rfl rfl (by omega) (Nat.le_refl _) (Nat.le_refl _) (Nat.le_of_ble_eq_true rfl) rfl (fun r8 c8 a8 hR8 => ?_)
      obtain ⟨ha, -, hy⟩ := hR8
      obtain ⟨rfl, hc⟩ := hy (by omega)
      rw [hc, ha]
      clear ha hc
      refine C.if_eqI (tgt := 38) dX2_readPassive_11 (by decide) (by decide) (fun hc11 => ?_) (fun hc11 => absurd hc11 (by decide))
      refine no _ _ ⟨hG4, ?_⟩
      rw [hB]
      exact Or.inl ⟨rfl, i4, hT4, by rw [tk_beg hk4, hb4]⟩
  | inl q =>
    rw [hac] at M1 hB
    change bodyP tb e p = pasP tb e q at hB
    unfold pasP at hB
    have hm := modV_rng tb e q.2
    refine C.aload_n dX2_readPassive_0 rfl ?_
    refine C.kcall (M1) cw_X2_readActs ml_X2_96 im_X2_readActs sl_X2_readActs dX2_readPassive_1 (hL _ (by decide)) rfl rfl rfl (by omega) (Nat.le_refl _) (Nat.le_refl _) (Nat.le_of_ble_eq_true rfl) rfl (fun r1 c1 a1 hR1 => ?_)
    obtain ⟨hG1, -, -, rfl, i1, hT1, hk1, hA1, hl1⟩ := hR1
    refine C.if_eqI (tgt := 38) dX2_readPassive_4 (by decide) (by decide) (fun hc4 => absurd hc4 (by decide)) (fun hc4 => ?_)
    skip
    have M2 := b_readMode (d := d - 1) (g := g) (by omega) hL hT1 hk1
    by_cases hmv : modV tb e q.2 < 0
    · rw [if_pos hmv] at hB
      refine C.aload_n dX2_readPassive_7 rfl ?_
      refine C.kcall (M2) cw_X2_readMode ml_X2_93 im_X2_readMode sl_X2_readMode dX2_readPassive_8 (hL _ (by decide)) rfl rfl rfl (by omega) (Nat.le_refl _) (Nat.le_refl _) (Nat.le_of_ble_eq_true rfl) rfl (fun r8 c8 a8 hR8 => ?_)
      obtain ⟨ha, -, hy⟩ := hR8
      obtain ⟨rfl, hc⟩ := hy hmv
      rw [hc, ha]
      clear ha hc
      refine C.if_eqI (tgt := 38) dX2_readPassive_11 (by decide) (by decide) (fun hc11 => ?_) (fun hc11 => absurd hc11 (by decide))
      refine no _ _ ⟨hG1, ?_⟩
      rw [hB]
      exact Or.inl ⟨rfl, i1, hT1, tk_beg hk1⟩
    · rw [if_neg hmv] at hB
      refine C.aload_n dX2_readPassive_7 rfl ?_
      refine C.kcall (M2) cw_X2_readMode ml_X2_93 im_X2_readMode sl_X2_readMode dX2_readPassive_8 (hL _ (by decide)) rfl rfl rfl (by omega) (Nat.le_refl _) (Nat.le_refl _) (Nat.le_of_ble_eq_true rfl) rfl (fun r8 c8 a8 hR8 => ?_)
      obtain ⟨ha, hy, -⟩ := hR8
      obtain ⟨rfl, i2, hc, hk2, hlt2⟩ := hy (by omega)
      rw [upI (show 65 ≠ 33 by decide)] at hc
      rw [hc, ha]
      clear ha hc
      refine C.if_eqI (tgt := 38) dX2_readPassive_11 (by decide) (by decide) (fun hc11 => absurd hc11 (by decide)) (fun hc11 => ?_)
      skip
      generalize hcm : va_up c1 33 (modV tb e q.2) = cm
      have hGm : Gr c cm a a1 := by rw [← hcm]; exact hG1.up (Or.inr (Or.inl rfl))
      have hAm : AcS cm a1 q.1 := by rw [← hcm]; exact hA1
      have hTm : ∀ j : Nat, j ≤ ts.length → TsAt (va_up cm 65 (j : Int)) a1 ts e j := fun j hj => by rw [← hcm]; exact hT1.at hj
      have h33 : cm 33 = modV tb e q.2 := by rw [← hcm]; rfl
      have hT2 := hTm i2 hlt2
      have hG65 : ∀ j : Nat, Gr c (va_up cm 65 (j : Int)) a a1 := fun j => hGm.up (Or.inr (Or.inr (Or.inr rfl)))
      obtain ⟨y1, y2⟩ := tk_is (w := 9) (by omega) hk2
      change tkIs ts i2 9 = psP tb e (modQ tb e q.2) zBe at y1
      change psP tb e (modQ tb e q.2) zBe = true → _ at y2
      generalize modQ tb e q.2 = p2 at *
      cases hbe : psP tb e p2 zBe with
      | false =>
        rw [hbe, if_neg (by decide)] at hB
        have M3 := b_takeF (d := d - 1) (g := g) (w := 9) (by unfold i3; decide) hL hT2 (y1.trans hbe)
        refine C.aload_n dX2_readPassive_14 rfl ?_
        refine C.getf gf_X2_21 dX2_readPassive_15 (hL _ (by decide)) rfl rfl ?_
        refine C.bi dX2_readPassive_18 (by decide) ?_
        refine C.kcall (M3) cw_X6_take ml_X2_54 im_X6_take sl_X6_take dX2_readPassive_20 (hL _ (by decide)) rfl rfl rfl (by omega) (Nat.le_refl _) (Nat.le_refl _) (Nat.le_of_ble_eq_true rfl) rfl (fun r20 c20 a20 hR20 => ?_)
        obtain ⟨rfl, hs, ha⟩ := hR20
        rw [hs, ha]
        clear hs ha
        refine C.if_eqI (tgt := 38) dX2_readPassive_23 (by decide) (by decide) (fun hc23 => ?_) (fun hc23 => absurd hc23 (by decide))
        refine no _ _ ⟨hG65 _, ?_⟩
        rw [hB]
        exact Or.inl ⟨rfl, i2, hT2, tk_beg hk2⟩
      | true =>
        rw [hbe, if_pos rfl] at hB
        have M3 := b_takeT (d := d - 1) (g := g) (w := 9) (by unfold i3; decide) hL hT2 (y1.trans hbe)
        rw [upSF] at M3
        have hlt3 := tk_lt (y1.trans hbe)
        have hT3 := hTm (i2 + 1) hlt3
        have hk3 := y2 hbe
        generalize wend tb e (bl tb e p2) = p3 at *
        obtain ⟨z1, z2⟩ := tk_is (w := 10) (by omega) hk3
        change tkIs ts (i2 + 1) 10 = psP tb e p3 zDone at z1
        change psP tb e p3 zDone = true → _ at z2
        cases hdo : psP tb e p3 zDone with
        | false =>
          rw [hdo, if_neg (by decide)] at hB
          have M4 := b_takeF (d := d - 1) (g := g) (w := 10) (by unfold i3; decide) hL hT3 (z1.trans hdo)
          refine C.aload_n dX2_readPassive_14 rfl ?_
          refine C.getf gf_X2_21 dX2_readPassive_15 (hL _ (by decide)) rfl rfl ?_
          refine C.bi dX2_readPassive_18 (by decide) ?_
          refine C.kcall (M3) cw_X6_take ml_X2_54 im_X6_take sl_X6_take dX2_readPassive_20 (hL _ (by decide)) rfl rfl rfl (by omega) (Nat.le_refl _) (Nat.le_refl _) (Nat.le_of_ble_eq_true rfl) rfl (fun r20 c20 a20 hR20 => ?_)
          obtain ⟨rfl, hs, ha⟩ := hR20
          rw [hs, ha]
          clear hs ha
          refine C.if_eqI (tgt := 38) dX2_readPassive_23 (by decide) (by decide) (fun hc23 => absurd hc23 (by decide)) (fun hc23 => ?_)
          refine C.aload_n dX2_readPassive_26 rfl ?_
          refine C.getf gf_X2_21 dX2_readPassive_27 (hL _ (by decide)) rfl rfl ?_
          refine C.bi dX2_readPassive_30 (by decide) ?_
          refine C.kcall (M4) cw_X6_take ml_X2_54 im_X6_take sl_X6_take dX2_readPassive_32 (hL _ (by decide)) rfl rfl rfl (by omega) (Nat.le_refl _) (Nat.le_refl _) (Nat.le_of_ble_eq_true rfl) rfl (fun r32 c32 a32 hR32 => ?_)
          obtain ⟨rfl, hs, ha⟩ := hR32
          rw [hs, ha]
          clear hs ha
          refine C.if_neI (tgt := 40) dX2_readPassive_35 (by decide) (by decide) (fun hc35 => absurd hc35 (by decide)) (fun hc35 => ?_)
          refine no _ _ ⟨hG65 _, ?_⟩
          rw [hB]
          exact Or.inl ⟨rfl, i2 + 1, hT3, tk_beg hk3⟩
        | true =>
          rw [hdo, if_pos rfl] at hB
          have M4 := b_takeT (d := d - 1) (g := g) (w := 10) (by unfold i3; decide) hL hT3 (z1.trans hdo)
          rw [upSF] at M4
          have hlt4 := tk_lt (z1.trans hdo)
          have hk4 := z2 hdo
          generalize wend tb e (bl tb e p3) = p4 at *
          have hT4 : TsAt (va_up (va_up cm 65 ((i2 + 1 + 1 : Nat) : Int)) 32 3) a1 ts e (i2 + 1 + 1) := hTm (i2 + 1 + 1) hlt4
          obtain ⟨x1, x2⟩ := tk_is (w := 11) (by omega) hk4
          change tkIs ts (i2 + 1 + 1) 11 = psP tb e p4 zBy at x1
          change psP tb e p4 zBy = true → _ at x2
          cases hby : psP tb e p4 zBy with
          | false =>
            rw [hby, if_neg (by decide)] at hB
            have M5 := b_takeF (d := d - 1) (g := g) (w := 11) (by unfold i3; decide) hL hT4 (x1.trans hby)
            refine C.aload_n dX2_readPassive_14 rfl ?_
            refine C.getf gf_X2_21 dX2_readPassive_15 (hL _ (by decide)) rfl rfl ?_
            refine C.bi dX2_readPassive_18 (by decide) ?_
            refine C.kcall (M3) cw_X6_take ml_X2_54 im_X6_take sl_X6_take dX2_readPassive_20 (hL _ (by decide)) rfl rfl rfl (by omega) (Nat.le_refl _) (Nat.le_refl _) (Nat.le_of_ble_eq_true rfl) rfl (fun r20 c20 a20 hR20 => ?_)
            obtain ⟨rfl, hs, ha⟩ := hR20
            rw [hs, ha]
            clear hs ha
            refine C.if_eqI (tgt := 38) dX2_readPassive_23 (by decide) (by decide) (fun hc23 => absurd hc23 (by decide)) (fun hc23 => ?_)
            refine C.aload_n dX2_readPassive_26 rfl ?_
            refine C.getf gf_X2_21 dX2_readPassive_27 (hL _ (by decide)) rfl rfl ?_
            refine C.bi dX2_readPassive_30 (by decide) ?_
            refine C.kcall (M4) cw_X6_take ml_X2_54 im_X6_take sl_X6_take dX2_readPassive_32 (hL _ (by decide)) rfl rfl rfl (by omega) (Nat.le_refl _) (Nat.le_refl _) (Nat.le_of_ble_eq_true rfl) rfl (fun r32 c32 a32 hR32 => ?_)
            obtain ⟨rfl, hs, ha⟩ := hR32
            rw [hs, ha]
            clear hs ha
            refine C.if_neI (tgt := 40) dX2_readPassive_35 (by decide) (by decide) (fun hc35 => ?_) (fun hc35 => absurd hc35 (by decide))
            refine C.aload_n dX2_readPassive_40 rfl ?_
            refine C.ic dX2_readPassive_41 ?_
            refine C.kput_32 hL pf_X2_31 dX2_readPassive_42 ?_
            refine C.aload_n dX2_readPassive_45 rfl ?_
            refine C.getf gf_X2_21 dX2_readPassive_46 (hL _ (by decide)) rfl rfl ?_
            refine C.bi dX2_readPassive_49 (by decide) ?_
            refine C.kcall (M5) cw_X6_take ml_X2_54 im_X6_take sl_X6_take dX2_readPassive_51 (hL _ (by decide)) rfl rfl rfl (by omega) (Nat.le_refl _) (Nat.le_refl _) (Nat.le_of_ble_eq_true rfl) rfl (fun r51 c51 a51 hR51 => ?_)
            obtain ⟨rfl, hs, ha⟩ := hR51
            rw [hs, ha]
            clear hs ha
            refine C.if_eqI (tgt := 64) dX2_readPassive_54 (by decide) (by decide) (fun hc54 => ?_) (fun hc54 => absurd hc54 (by decide))
            refine C.ic dX2_readPassive_64 ?_
            refine C.goto (tgt := 69) dX2_readPassive_65 (by decide) ?_
            refine C.retI rfl (by first | rfl | (exact (iI_bool (by first | exact Or.inl rfl | exact Or.inr rfl | assumption)).1)) dX2_readPassive_69 (Nat.le_refl _) (Nat.le_refl _) ⟨_, _, ?_, rfl, rfl⟩
            refine ⟨(hG65 _).up (Or.inl rfl), ?_⟩
            rw [hB]
            exact ⟨rfl, i2 + 1 + 1, hT4, hk4.bl, hAm, hl1, rfl, h33⟩
          | true =>
            rw [hby, if_pos rfl] at hB
            have M5 := b_takeT (d := d - 1) (g := g) (w := 11) (by unfold i3; decide) hL hT4 (x1.trans hby)
            rw [upI (show 65 ≠ 32 by decide), upSF] at M5
            have hlt5 := tk_lt (x1.trans hby)
            have hk5 := x2 hby
            generalize wend tb e (bl tb e p4) = p5 at *
            have hT5 : TsAt (va_up (va_up cm 32 3) 65 ((i2 + 1 + 1 + 1 : Nat) : Int)) a1 ts e (i2 + 1 + 1 + 1) := hTm (i2 + 1 + 1 + 1) hlt5
            have M6 := b_readWho (d := d - 1) (g := g) (by omega) hL hT5 hk5
            have wr := whoV_rng tb e p5
            by_cases hwv : whoV tb e p5 < 0
            · rw [if_pos hwv] at hB
              refine C.aload_n dX2_readPassive_14 rfl ?_
              refine C.getf gf_X2_21 dX2_readPassive_15 (hL _ (by decide)) rfl rfl ?_
              refine C.bi dX2_readPassive_18 (by decide) ?_
              refine C.kcall (M3) cw_X6_take ml_X2_54 im_X6_take sl_X6_take dX2_readPassive_20 (hL _ (by decide)) rfl rfl rfl (by omega) (Nat.le_refl _) (Nat.le_refl _) (Nat.le_of_ble_eq_true rfl) rfl (fun r20 c20 a20 hR20 => ?_)
              obtain ⟨rfl, hs, ha⟩ := hR20
              rw [hs, ha]
              clear hs ha
              refine C.if_eqI (tgt := 38) dX2_readPassive_23 (by decide) (by decide) (fun hc23 => absurd hc23 (by decide)) (fun hc23 => ?_)
              refine C.aload_n dX2_readPassive_26 rfl ?_
              refine C.getf gf_X2_21 dX2_readPassive_27 (hL _ (by decide)) rfl rfl ?_
              refine C.bi dX2_readPassive_30 (by decide) ?_
              refine C.kcall (M4) cw_X6_take ml_X2_54 im_X6_take sl_X6_take dX2_readPassive_32 (hL _ (by decide)) rfl rfl rfl (by omega) (Nat.le_refl _) (Nat.le_refl _) (Nat.le_of_ble_eq_true rfl) rfl (fun r32 c32 a32 hR32 => ?_)
              obtain ⟨rfl, hs, ha⟩ := hR32
              rw [hs, ha]
              clear hs ha
              refine C.if_neI (tgt := 40) dX2_readPassive_35 (by decide) (by decide) (fun hc35 => ?_) (fun hc35 => absurd hc35 (by decide))
              refine C.aload_n dX2_readPassive_40 rfl ?_
              refine C.ic dX2_readPassive_41 ?_
              refine C.kput_32 hL pf_X2_31 dX2_readPassive_42 ?_
              rw [upI (show 65 ≠ 32 by decide)]
              rw [upI (show 65 ≠ 32 by decide)] at hT4
              refine C.aload_n dX2_readPassive_45 rfl ?_
              refine C.getf gf_X2_21 dX2_readPassive_46 (hL _ (by decide)) rfl rfl ?_
              refine C.bi dX2_readPassive_49 (by decide) ?_
              refine C.kcall (M5) cw_X6_take ml_X2_54 im_X6_take sl_X6_take dX2_readPassive_51 (hL _ (by decide)) rfl rfl rfl (by omega) (Nat.le_refl _) (Nat.le_refl _) (Nat.le_of_ble_eq_true rfl) rfl (fun r51 c51 a51 hR51 => ?_)
              obtain ⟨rfl, hs, ha⟩ := hR51
              rw [hs, ha]
              clear hs ha
              refine C.if_eqI (tgt := 64) dX2_readPassive_54 (by decide) (by decide) (fun hc54 => absurd hc54 (by decide)) (fun hc54 => ?_)
              refine C.aload_n dX2_readPassive_57 rfl ?_
              refine C.kcall (M6) cw_X2_readWho ml_X2_90 im_X2_readWho sl_X2_readWho dX2_readPassive_58 (hL _ (by decide)) rfl rfl rfl (by omega) (Nat.le_refl _) (Nat.le_refl _) (Nat.le_of_ble_eq_true rfl) rfl (fun r58 c58 a58 hR58 => ?_)
              obtain ⟨ha, -, hy⟩ := hR58
              obtain ⟨rfl, hc⟩ := hy hwv
              rw [hc, ha]
              clear ha hc
              refine C.if_eqI (tgt := 68) dX2_readPassive_61 (by decide) (by decide) (fun hc61 => ?_) (fun hc61 => absurd hc61 (by decide))
              refine C.ic dX2_readPassive_68 ?_
              refine C.retI rfl (by first | rfl | (exact (iI_bool (by first | exact Or.inl rfl | exact Or.inr rfl | assumption)).1)) dX2_readPassive_69 (Nat.le_refl _) (Nat.le_refl _) ⟨_, _, ?_, rfl, rfl⟩
              refine ⟨((hGm.up (Or.inl rfl)).up (Or.inr (Or.inr (Or.inr rfl)))).up (Or.inl rfl), ?_⟩
              rw [hB]
              exact Or.inl ⟨rfl, i2 + 1 + 1 + 1, hT5, tk_beg hk5⟩
            · rw [if_neg hwv] at hB
              refine C.aload_n dX2_readPassive_14 rfl ?_
              refine C.getf gf_X2_21 dX2_readPassive_15 (hL _ (by decide)) rfl rfl ?_
              refine C.bi dX2_readPassive_18 (by decide) ?_
              refine C.kcall (M3) cw_X6_take ml_X2_54 im_X6_take sl_X6_take dX2_readPassive_20 (hL _ (by decide)) rfl rfl rfl (by omega) (Nat.le_refl _) (Nat.le_refl _) (Nat.le_of_ble_eq_true rfl) rfl (fun r20 c20 a20 hR20 => ?_)
              obtain ⟨rfl, hs, ha⟩ := hR20
              rw [hs, ha]
              clear hs ha
              refine C.if_eqI (tgt := 38) dX2_readPassive_23 (by decide) (by decide) (fun hc23 => absurd hc23 (by decide)) (fun hc23 => ?_)
              refine C.aload_n dX2_readPassive_26 rfl ?_
              refine C.getf gf_X2_21 dX2_readPassive_27 (hL _ (by decide)) rfl rfl ?_
              refine C.bi dX2_readPassive_30 (by decide) ?_
              refine C.kcall (M4) cw_X6_take ml_X2_54 im_X6_take sl_X6_take dX2_readPassive_32 (hL _ (by decide)) rfl rfl rfl (by omega) (Nat.le_refl _) (Nat.le_refl _) (Nat.le_of_ble_eq_true rfl) rfl (fun r32 c32 a32 hR32 => ?_)
              obtain ⟨rfl, hs, ha⟩ := hR32
              rw [hs, ha]
              clear hs ha
              refine C.if_neI (tgt := 40) dX2_readPassive_35 (by decide) (by decide) (fun hc35 => ?_) (fun hc35 => absurd hc35 (by decide))
              refine C.aload_n dX2_readPassive_40 rfl ?_
              refine C.ic dX2_readPassive_41 ?_
              refine C.kput_32 hL pf_X2_31 dX2_readPassive_42 ?_
              rw [upI (show 65 ≠ 32 by decide)]
              refine C.aload_n dX2_readPassive_45 rfl ?_
              refine C.getf gf_X2_21 dX2_readPassive_46 (hL _ (by decide)) rfl rfl ?_
              refine C.bi dX2_readPassive_49 (by decide) ?_
              refine C.kcall (M5) cw_X6_take ml_X2_54 im_X6_take sl_X6_take dX2_readPassive_51 (hL _ (by decide)) rfl rfl rfl (by omega) (Nat.le_refl _) (Nat.le_refl _) (Nat.le_of_ble_eq_true rfl) rfl (fun r51 c51 a51 hR51 => ?_)
              obtain ⟨rfl, hs, ha⟩ := hR51
              rw [hs, ha]
              clear hs ha
              refine C.if_eqI (tgt := 64) dX2_readPassive_54 (by decide) (by decide) (fun hc54 => absurd hc54 (by decide)) (fun hc54 => ?_)
              refine C.aload_n dX2_readPassive_57 rfl ?_
              refine C.kcall (M6) cw_X2_readWho ml_X2_90 im_X2_readWho sl_X2_readWho dX2_readPassive_58 (hL _ (by decide)) rfl rfl rfl (by omega) (Nat.le_refl _) (Nat.le_refl _) (Nat.le_of_ble_eq_true rfl) rfl (fun r58 c58 a58 hR58 => ?_)
              obtain ⟨ha, hy, -⟩ := hR58
              obtain ⟨rfl, hc, hk6, hlt6⟩ := hy (by omega)
              rw [upSF] at hc
              rw [hc, ha]
              clear ha hc
              refine C.if_eqI (tgt := 68) dX2_readPassive_61 (by decide) (by decide) (fun hc61 => absurd hc61 (by decide)) (fun hc61 => ?_)
              refine C.ic dX2_readPassive_64 ?_
              refine C.goto (tgt := 69) dX2_readPassive_65 (by decide) ?_
              refine C.retI rfl (by first | rfl | (exact (iI_bool (by first | exact Or.inl rfl | exact Or.inr rfl | assumption)).1)) dX2_readPassive_69 (Nat.le_refl _) (Nat.le_refl _) ⟨_, _, ?_, rfl, rfl⟩
              refine ⟨((hGm.up (Or.inl rfl)).up (Or.inr (Or.inr (Or.inr rfl)))).up (Or.inl rfl), ?_⟩
              rw [hB]
              exact ⟨rfl, i2 + 1 + 1 + 1 + 1, hTm _ hlt6, hk6, hAm, hl1, rfl, h33⟩
end BODY2
