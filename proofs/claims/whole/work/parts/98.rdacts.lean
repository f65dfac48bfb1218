/-! acts, read by the class -/
def rstA (tb : Nat → Int) (e n : Nat) (xs : List Int) (p1 : Nat) : RLs := if psP tb e p1 zAnd then (if xs.length = 3 then .inr (bl tb e p1) else actF tb e n xs (wend tb e (bl tb e p1)) false) else .inl (xs, bl tb e p1)
theorem actF_step {tb : Nat → Int} {e n : Nat} {xs : List Int} {p : Nat} : actF tb e (n + 1) xs p false = if psP tb e p zAct then (if nmV tb e (bl tb e (wend tb e (bl tb e p))) 0 9 ∈ xs ∨ nmV tb e (bl tb e (wend tb e (bl tb e p))) 0 9 < 0 then .inr (bl tb e (wend tb e (bl tb e p))) else rstA tb e n (xs ++ [nmV tb e (bl tb e (wend tb e (bl tb e p))) 0 9]) (dend tb e (bl tb e (wend tb e (bl tb e p))))) else .inr (bl tb e p) := by
  rw [actF, if_neg (by decide)]
  unfold actG rstA
  rw [List.length_append]
  simp only [List.length_cons, List.length_nil]
  congr 1
  split
  · rfl
  · split
    · by_cases h : xs.length = 2
      · rw [if_pos h, if_pos (by omega)]
      · rw [if_neg h, if_neg (by omega)]
    · rfl
theorem actF_has {tb : Nat → Int} {e n : Nat} {xs : List Int} {p : Nat} (h : psP tb e p zAct = true) : actF tb e (n + 1) xs (wend tb e (bl tb e p)) true = actF tb e (n + 1) xs p false := by
  rw [actF, actF, if_pos rfl, if_neg (by decide), h, if_pos rfl]
/-- only the reader's own fields and its row of acts may differ -/
def Gr (c c' : SF) (a a' : SA) : Prop := (∀ j, j ≠ 32 → j ≠ 33 → j ≠ 35 → j ≠ 65 → c' j = c j) ∧ ∀ b, b ≠ 10 → a' b = a b
theorem Gr.rf {c : SF} {a : SA} : Gr c c a a := ⟨fun _ _ _ _ _ => rfl, fun _ _ => rfl⟩
theorem Gr.tr {c1 c2 c3 : SF} {a1 a2 a3 : SA} (h1 : Gr c1 c2 a1 a2) (h2 : Gr c2 c3 a2 a3) : Gr c1 c3 a1 a3 := ⟨fun j x y z w => (h2.1 j x y z w).trans (h1.1 j x y z w), fun b h => (h2.2 b h).trans (h1.2 b h)⟩
theorem Gr.up {c0 c : SF} {a0 a : SA} {k : Nat} {v : Int} (h : Gr c0 c a0 a) (hk : k = 32 ∨ k = 33 ∨ k = 35 ∨ k = 65) : Gr c0 (va_up c k v) a0 a := ⟨fun j x y z w => by rw [va_up_ne _ _ (by omega)]; exact h.1 j x y z w, h.2⟩
theorem Gr.row {c0 c : SF} {a0 a : SA} {r : Nat → Int} (h : Gr c0 c a0 a) : Gr c0 c a0 (va_up a 10 r) := ⟨h.1, fun b hb => by rw [va_up_ne _ _ hb]; exact h.2 b hb⟩
section ACTS
variable {tb : Nat → Int} {e i p d : Nat} {ts : List (Int × Int × Int)} {c : SF} {a : SA} {L : List Nat} {g : Nat → AC}
set_option maxHeartbeats 1000000 in
theorem b_readAct {xs : List Int} (hd : 3 ≤ d) (hL : ∀ k, k < 36 → k ∈ L) (hT : TsAt c a ts e i) (hk : Tk tb e ts i p) (hA : AcS c a xs) (h3 : xs.length < 3) : KA yX2_readAct cX2_readAct 2 (some .boolean) d [.ref 3] L g c a (fun r c' a' => (psP tb e p zAct = false → r = some (.int (iI 0)) ∧ c' = c ∧ a' = a) ∧ (psP tb e p zAct = true → (nmV tb e (bl tb e (wend tb e (bl tb e p))) 0 9 ∈ xs ∨ nmV tb e (bl tb e (wend tb e (bl tb e p))) 0 9 < 0) → r = some (.int (iI 0)) ∧ c' = va_up c 65 ((i + 1 : Nat) : Int) ∧ a' = a ∧ Tk tb e ts (i + 1) (wend tb e (bl tb e p)) ∧ i + 1 ≤ ts.length) ∧ (psP tb e p zAct = true → ¬ (nmV tb e (bl tb e (wend tb e (bl tb e p))) 0 9 ∈ xs ∨ nmV tb e (bl tb e (wend tb e (bl tb e p))) 0 9 < 0) → r = some (.int (iI 1)) ∧ Gr c c' a a' ∧ c' 32 = c 32 ∧ c' 33 = c 33 ∧ TsAt c' a' ts e (i + 2) ∧ Tk tb e ts (i + 2) (dend tb e (bl tb e (wend tb e (bl tb e p)))) ∧ AcS c' a' (xs ++ [nmV tb e (bl tb e (wend tb e (bl tb e p))) 0 9]))) := by
  obtain ⟨y1, y2⟩ := tk_is (w := 6) (by omega) hk
  change tkIs ts i 6 = psP tb e p zAct at y1
  change psP tb e p zAct = true → _ at y2
  refine KA.of (by decide +kernel) rfl (Nat.le_of_ble_eq_true rfl) (fun X C => ?_)
  cases ca : psP tb e p zAct with
  | false =>
    have M := b_takeF (d := d - 1) (g := g) (w := 6) (by unfold i3; decide) hL hT (y1.trans ca)
    refine C.aload_n dX2_readAct_0 rfl ?_
    refine C.getf gf_X2_21 dX2_readAct_1 (hL _ (by decide)) rfl rfl ?_
    refine C.bi dX2_readAct_4 (by decide) ?_
    refine C.kcall (M) cw_X6_take ml_X2_54 im_X6_take sl_X6_take dX2_readAct_6 (hL _ (by decide)) rfl rfl rfl (by omega) (Nat.le_refl _) (Nat.le_refl _) (Nat.le_of_ble_eq_true rfl) rfl (fun r6 c6 a6 hR6 => ?_)
    obtain ⟨rfl, hs, ha⟩ := hR6
    rw [hs, ha]
    clear hs ha
    refine C.if_eqI (tgt := 26) dX2_readAct_9 (by decide) (by decide) (fun hc9 => ?_) (fun hc9 => absurd hc9 (by decide))
    refine C.ic dX2_readAct_26 ?_
    refine C.retI rfl (by first | rfl | (exact (iI_bool (by first | exact Or.inl rfl | exact Or.inr rfl | assumption)).1)) dX2_readAct_27 (Nat.le_refl _) (Nat.le_refl _) ⟨_, _, ?_, rfl, rfl⟩
    exact ⟨fun _ => ⟨rfl, rfl, rfl⟩, (fun h => by rw [ca] at h; cases h), (fun h => by rw [ca] at h; cases h)⟩
  | true =>
    have M := b_takeT (d := d - 1) (g := g) (w := 6) (by unfold i3; decide) hL hT (y1.trans ca)
    have hlt := tk_lt (y1.trans ca)
    have hT2 := hT.at hlt
    have hk2 := y2 ca
    have hA2 : AcS (va_up c 65 ((i + 1 : Nat) : Int)) a xs := hA
    have M2 := k_value (d := d - 1) (g := g) hL hT2
    have hvr := tkVal_rng hT2
    have M3 := b_isTold (d := d - 1) (g := g) (v := tkVal ts (i + 1)) (by unfold i3; omega) hL hA2
    obtain ⟨n1, n2⟩ := tk_nm (lo := 0) (hi := 9) (Int.le_refl 0) hk2
    have M4 := k_takeNumber (d := d - 1) (g := g) (lo := 0) (hi := 9) (by decide) (by decide) (by omega) hL hT2
    generalize hV : nmV tb e (bl tb e (wend tb e (bl tb e p))) 0 9 = V at *
    have hVt : (V = tkVal ts (i + 1) ∧ 0 ≤ V ∧ V ≤ 9) ∨ (V = -1 ∧ (tkVal ts (i + 1) < 0 ∨ 9 < tkVal ts (i + 1))) := by
      unfold tkNum at n1
      split at n1
      · right; omega
      · left; omega
    have hmem : tkVal ts (i + 1) ∈ xs ↔ V ∈ xs := by
      constructor
      · intro h
        have := hA.2.2.2.1 _ h
        rcases hVt with ⟨h1, -⟩ | ⟨-, h2⟩
        · rw [h1]; exact h
        · omega
      · intro h
        have := hA.2.2.2.1 _ h
        rcases hVt with ⟨h1, -⟩ | ⟨h1, -⟩
        · rw [← h1]; exact h
        · omega
    have hdec : decide (tkVal ts (i + 1) ∈ xs) = decide (V ∈ xs) := decide_eq_decide.mpr hmem
    rw [hdec] at M3
    rw [n1] at M4
    have h35 : (va_up c 65 ((i + 1 : Nat) : Int)) 35 = (xs.length : Int) := hA.1
    by_cases hin : V ∈ xs
    · rw [decide_eq_true hin] at M3
      refine C.aload_n dX2_readAct_0 rfl ?_
      refine C.getf gf_X2_21 dX2_readAct_1 (hL _ (by decide)) rfl rfl ?_
      refine C.bi dX2_readAct_4 (by decide) ?_
      refine C.kcall (M) cw_X6_take ml_X2_54 im_X6_take sl_X6_take dX2_readAct_6 (hL _ (by decide)) rfl rfl rfl (by omega) (Nat.le_refl _) (Nat.le_refl _) (Nat.le_of_ble_eq_true rfl) rfl (fun r6 c6 a6 hR6 => ?_)
      obtain ⟨rfl, hs, ha⟩ := hR6
      rw [hs, ha]
      clear hs ha
      refine C.if_eqI (tgt := 26) dX2_readAct_9 (by decide) (by decide) (fun hc9 => absurd hc9 (by decide)) (fun hc9 => ?_)
      refine C.aload_n dX2_readAct_12 rfl ?_
      refine C.aload_n dX2_readAct_13 rfl ?_
      refine C.getf gf_X2_21 dX2_readAct_14 (hL _ (by decide)) rfl rfl ?_
      refine C.kcall (M2) cw_X6_value ml_X2_102 im_X6_value sl_X6_value dX2_readAct_17 (hL _ (by decide)) rfl rfl rfl (by omega) (Nat.le_refl _) (Nat.le_refl _) (Nat.le_of_ble_eq_true rfl) rfl (fun r17 c17 a17 hR17 => ?_)
      obtain ⟨rfl, hs, ha⟩ := hR17
      rw [hs, ha]
      clear hs ha
      refine C.kcall (M3) cw_X2_isTold ml_X2_105 im_X2_isTold sl_X2_isTold dX2_readAct_20 (hL _ (by decide)) rfl rfl rfl (by omega) (Nat.le_refl _) (Nat.le_refl _) (Nat.le_of_ble_eq_true rfl) rfl (fun r20 c20 a20 hR20 => ?_)
      obtain ⟨rfl, hs, ha⟩ := hR20
      rw [hs, ha]
      clear hs ha
      refine C.if_eqI (tgt := 28) dX2_readAct_23 (by decide) (by decide) (fun hc23 => absurd hc23 (by decide)) (fun hc23 => ?_)
      refine C.ic dX2_readAct_26 ?_
      refine C.retI rfl (by first | rfl | (exact (iI_bool (by first | exact Or.inl rfl | exact Or.inr rfl | assumption)).1)) dX2_readAct_27 (Nat.le_refl _) (Nat.le_refl _) ⟨_, _, ?_, rfl, rfl⟩
      exact ⟨(fun h => by rw [ca] at h; cases h), fun _ _ => ⟨rfl, rfl, rfl, hk2, hlt⟩, fun _ h => absurd (Or.inl hin) h⟩
    · rw [decide_eq_false hin] at M3
      by_cases hneg : V < 0
      · rw [if_pos hneg] at M4
        have hV1 : V = -1 := by omega
        refine C.aload_n dX2_readAct_0 rfl ?_
        refine C.getf gf_X2_21 dX2_readAct_1 (hL _ (by decide)) rfl rfl ?_
        refine C.bi dX2_readAct_4 (by decide) ?_
        refine C.kcall (M) cw_X6_take ml_X2_54 im_X6_take sl_X6_take dX2_readAct_6 (hL _ (by decide)) rfl rfl rfl (by omega) (Nat.le_refl _) (Nat.le_refl _) (Nat.le_of_ble_eq_true rfl) rfl (fun r6 c6 a6 hR6 => ?_)
        obtain ⟨rfl, hs, ha⟩ := hR6
        rw [hs, ha]
        clear hs ha
        refine C.if_eqI (tgt := 26) dX2_readAct_9 (by decide) (by decide) (fun hc9 => absurd hc9 (by decide)) (fun hc9 => ?_)
        refine C.aload_n dX2_readAct_12 rfl ?_
        refine C.aload_n dX2_readAct_13 rfl ?_
        refine C.getf gf_X2_21 dX2_readAct_14 (hL _ (by decide)) rfl rfl ?_
        refine C.kcall (M2) cw_X6_value ml_X2_102 im_X6_value sl_X6_value dX2_readAct_17 (hL _ (by decide)) rfl rfl rfl (by omega) (Nat.le_refl _) (Nat.le_refl _) (Nat.le_of_ble_eq_true rfl) rfl (fun r17 c17 a17 hR17 => ?_)
        obtain ⟨rfl, hs, ha⟩ := hR17
        rw [hs, ha]
        clear hs ha
        refine C.kcall (M3) cw_X2_isTold ml_X2_105 im_X2_isTold sl_X2_isTold dX2_readAct_20 (hL _ (by decide)) rfl rfl rfl (by omega) (Nat.le_refl _) (Nat.le_refl _) (Nat.le_of_ble_eq_true rfl) rfl (fun r20 c20 a20 hR20 => ?_)
        obtain ⟨rfl, hs, ha⟩ := hR20
        rw [hs, ha]
        clear hs ha
        refine C.if_eqI (tgt := 28) dX2_readAct_23 (by decide) (by decide) (fun hc23 => ?_) (fun hc23 => absurd hc23 (by decide))
        refine C.aload_n dX2_readAct_28 rfl ?_
        refine C.getf gf_X2_21 dX2_readAct_29 (hL _ (by decide)) rfl rfl ?_
        refine C.ic dX2_readAct_32 ?_
        refine C.bi dX2_readAct_33 (by decide) ?_
        refine C.kcall (M4) cw_X6_takeNumber ml_X2_75 im_X6_takeNumber sl_X6_takeNumber dX2_readAct_35 (hL _ (by decide)) rfl rfl rfl (by omega) (Nat.le_refl _) (Nat.le_refl _) (Nat.le_of_ble_eq_true rfl) rfl (fun r35 c35 a35 hR35 => ?_)
        obtain ⟨rfl, hs, ha⟩ := hR35
        rw [hs, ha]
        clear hs ha
        refine C.istore_n dX2_readAct_38 (by decide) rfl ?_
        refine C.iload_n dX2_readAct_39 rfl ?_
        refine C.ic dX2_readAct_40 ?_
        refine C.icmp_eqI (tgt := 56) dX2_readAct_41 (by decide) (by omega) (by omega) (fun hc41 => ?_) (fun hc41 => absurd hc41 (by omega))
        refine C.ic dX2_readAct_56 ?_
        refine C.retI rfl (by first | rfl | (exact (iI_bool (by first | exact Or.inl rfl | exact Or.inr rfl | assumption)).1)) dX2_readAct_57 (Nat.le_refl _) (Nat.le_refl _) ⟨_, _, ?_, rfl, rfl⟩
        exact ⟨(fun h => by rw [ca] at h; cases h), fun _ _ => ⟨rfl, rfl, rfl, hk2, hlt⟩, fun _ h => absurd (Or.inr hneg) h⟩
      · rw [if_neg hneg, upSF] at M4
        have h35' : (va_up c 65 ((i + 1 + 1 : Nat) : Int)) 35 = (xs.length : Int) := hA.1
        have hlt2 : i + 1 + 1 ≤ ts.length := by
          cases hti : ts[i + 1]? with
          | none =>
            exfalso
            have : tkVal ts (i + 1) = -1 := by unfold tkVal; rw [hti]
            omega
          | some t => exact (List.getElem?_eq_some_iff.mp hti).1
        refine C.aload_n dX2_readAct_0 rfl ?_
        refine C.getf gf_X2_21 dX2_readAct_1 (hL _ (by decide)) rfl rfl ?_
        refine C.bi dX2_readAct_4 (by decide) ?_
        refine C.kcall (M) cw_X6_take ml_X2_54 im_X6_take sl_X6_take dX2_readAct_6 (hL _ (by decide)) rfl rfl rfl (by omega) (Nat.le_refl _) (Nat.le_refl _) (Nat.le_of_ble_eq_true rfl) rfl (fun r6 c6 a6 hR6 => ?_)
        obtain ⟨rfl, hs, ha⟩ := hR6
        rw [hs, ha]
        clear hs ha
        refine C.if_eqI (tgt := 26) dX2_readAct_9 (by decide) (by decide) (fun hc9 => absurd hc9 (by decide)) (fun hc9 => ?_)
        refine C.aload_n dX2_readAct_12 rfl ?_
        refine C.aload_n dX2_readAct_13 rfl ?_
        refine C.getf gf_X2_21 dX2_readAct_14 (hL _ (by decide)) rfl rfl ?_
        refine C.kcall (M2) cw_X6_value ml_X2_102 im_X6_value sl_X6_value dX2_readAct_17 (hL _ (by decide)) rfl rfl rfl (by omega) (Nat.le_refl _) (Nat.le_refl _) (Nat.le_of_ble_eq_true rfl) rfl (fun r17 c17 a17 hR17 => ?_)
        obtain ⟨rfl, hs, ha⟩ := hR17
        rw [hs, ha]
        clear hs ha
        refine C.kcall (M3) cw_X2_isTold ml_X2_105 im_X2_isTold sl_X2_isTold dX2_readAct_20 (hL _ (by decide)) rfl rfl rfl (by omega) (Nat.le_refl _) (Nat.le_refl _) (Nat.le_of_ble_eq_true rfl) rfl (fun r20 c20 a20 hR20 => ?_)
        obtain ⟨rfl, hs, ha⟩ := hR20
        rw [hs, ha]
        clear hs ha
        refine C.if_eqI (tgt := 28) dX2_readAct_23 (by decide) (by decide) (fun hc23 => ?_) (fun hc23 => absurd hc23 (by decide))
        refine C.aload_n dX2_readAct_28 rfl ?_
        refine C.getf gf_X2_21 dX2_readAct_29 (hL _ (by decide)) rfl rfl ?_
        refine C.ic dX2_readAct_32 ?_
        refine C.bi dX2_readAct_33 (by decide) ?_
        refine C.kcall (M4) cw_X6_takeNumber ml_X2_75 im_X6_takeNumber sl_X6_takeNumber dX2_readAct_35 (hL _ (by decide)) rfl rfl rfl (by omega) (Nat.le_refl _) (Nat.le_refl _) (Nat.le_of_ble_eq_true rfl) rfl (fun r35 c35 a35 hR35 => ?_)
        obtain ⟨rfl, hs, ha⟩ := hR35
        rw [hs, ha]
        clear hs ha
        refine C.istore_n dX2_readAct_38 (by decide) rfl ?_
        refine C.iload_n dX2_readAct_39 rfl ?_
        refine C.ic dX2_readAct_40 ?_
        refine C.icmp_eqI (tgt := 56) dX2_readAct_41 (by decide) (by omega) (by omega) (fun hc41 => absurd hc41 (by omega)) (fun hc41 => ?_)
        refine C.aload_n dX2_readAct_44 rfl ?_
        refine C.getf gf_X2_38 dX2_readAct_45 (hL _ (by decide)) rfl rfl ?_
        refine C.topI (b := (xs.length : Int)) h35' ?_
        refine C.aload_n dX2_readAct_48 rfl ?_
        refine C.getf gf_X2_27 dX2_readAct_49 (hL _ (by decide)) rfl rfl ?_
        refine C.alenI dX2_readAct_52 (hL _ (by decide)) rfl (by decide) ?_
        refine C.icmp_ltI (tgt := 58) dX2_readAct_53 (by decide) (by omega) (by decide) (fun hc53 => ?_) (fun hc53 => absurd hc53 (by omega))
        refine C.aload_n dX2_readAct_58 rfl ?_
        refine C.getf gf_X2_27 dX2_readAct_59 (hL _ (by decide)) rfl rfl ?_
        refine C.aload_n dX2_readAct_62 rfl ?_
        refine C.getf gf_X2_38 dX2_readAct_63 (hL _ (by decide)) rfl rfl ?_
        refine C.topI (b := (xs.length : Int)) h35' ?_
        refine C.iload_n dX2_readAct_66 rfl ?_
        refine C.kast_10 hL (k := xs.length) dX2_readAct_67 (by omega) (by omega) ?_
        refine C.aload_n dX2_readAct_68 rfl ?_
        refine C.dup dX2_readAct_69 rfl ?_
        refine C.getf gf_X2_38 dX2_readAct_70 (hL _ (by decide)) rfl rfl ?_
        refine C.topI (b := (xs.length : Int)) h35' ?_
        refine C.ic dX2_readAct_73 ?_
        refine C.iaddI dX2_readAct_74 ?_
        refine C.kput_35 hL pf_X2_38 dX2_readAct_75 ?_
        refine C.ic dX2_readAct_78 ?_
        refine C.retI rfl (by first | rfl | (exact (iI_bool (by first | exact Or.inl rfl | exact Or.inr rfl | assumption)).1)) dX2_readAct_79 (Nat.le_refl _) (Nat.le_refl _) ⟨_, _, ?_, rfl, rfl⟩
        refine ⟨(fun h => by rw [ca] at h; cases h), fun _ h => absurd h (not_or.mpr ⟨hin, hneg⟩), fun _ _ => ⟨rfl, (((Gr.rf.up (Or.inr (Or.inr (Or.inr rfl)))).row).up (Or.inr (Or.inr (Or.inl rfl)))), rfl, rfl, ?_, n2 hneg, ?_⟩⟩
        · exact ⟨hT.1, fun j t hj => hT.2.1 j t hj, hT.2.2.1, hT.2.2.2.1, rfl, hlt2⟩
        · refine ⟨?_, ?_, fun j v hj => ?_, fun v hv => ?_, ?_⟩
          · rw [List.length_append]; rfl
          · rw [List.length_append]; show xs.length + 1 ≤ 3; omega
          · show va_up (a 10) xs.length V j = v
            by_cases hjx : j < xs.length
            · rw [List.getElem?_append_left hjx] at hj
              rw [va_up_ne _ _ (by omega)]
              exact hA.2.2.1 j v hj
            · have hjl := (List.getElem?_eq_some_iff.mp hj).1
              rw [List.length_append] at hjl
              have hje : j = xs.length := by simp only [List.length_cons, List.length_nil] at hjl; omega
              subst hje
              rw [List.getElem?_append_right (Nat.le_refl _), Nat.sub_self] at hj
              rw [va_up_self]
              exact Option.some.inj hj
          · rcases List.mem_append.mp hv with h | h
            · exact hA.2.2.2.1 v h
            · rw [List.mem_singleton.mp h]; omega
          · rw [List.nodup_append]
            exact ⟨hA.2.2.2.2, by simp, fun x hx y hy => by rw [List.mem_singleton.mp hy]; exact fun h => hin (h ▸ hx)⟩
/-- what reading the acts ends with -/
def AcPo (tb : Nat → Int) (e : Nat) (ts : List (Int × Int × Int)) (c : SF) (a : SA) (res : RLs) : Option Value → SF → SA → Prop := fun r c' a' => Gr c c' a a' ∧ c' 32 = c 32 ∧ c' 33 = c 33 ∧ (match res with
  | .inl q => r = some (.int (iI 1)) ∧ ∃ i', TsAt c' a' ts e i' ∧ Tk tb e ts i' q.2 ∧ AcS c' a' q.1 ∧ 1 ≤ q.1.length
  | .inr b => (r = some (.int (iI 0)) ∧ ∃ i', TsAt c' a' ts e i' ∧ tkBeg ts i' e = (b : Int)) ∨ (r = some (.int (iI 1)) ∧ ∃ i' p' xs, TsAt c' a' ts e i' ∧ Tk tb e ts i' p' ∧ AcS c' a' xs ∧ xs.length = 3 ∧ psP tb e p' zAnd = true ∧ bl tb e p' = b))
set_option maxHeartbeats 2000000 in
theorem b_readActs (hd : 4 ≤ d) (hL : ∀ k, k < 36 → k ∈ L) (hT : TsAt c a ts e i) (hk : Tk tb e ts i p) : KA yX2_readActs cX2_readActs 3 (some .boolean) d [.ref 3] L g c a (AcPo tb e ts c a (actF tb e 3 [] p false)) := by
  refine KA.of (by decide +kernel) rfl (Nat.le_of_ble_eq_true rfl) (fun X C => ?_)
  have out0 : ∀ (c1 : SF) (a1 : SA) (v2 : Option Value), AcPo tb e ts c a (actF tb e 3 [] p false) (some (.int (iI 0))) c1 a1 → X 0 0 L (kv c1 a1 g) 44 [some (.ref 3), some (.int (iI 0)), v2] [] := by
    intro c1 a1 v2 hP
    refine C.iload_n dX2_readActs_44 rfl ?_
    refine C.retI rfl (by first | rfl | (exact (iI_bool (by first | exact Or.inl rfl | exact Or.inr rfl | assumption)).1)) dX2_readActs_45 (Nat.le_refl _) (Nat.le_refl _) ⟨_, _, ?_, rfl, rfl⟩
    exact hP
  have out1 : ∀ (c1 : SF) (a1 : SA) (v2 : Option Value), AcPo tb e ts c a (actF tb e 3 [] p false) (some (.int (iI 1))) c1 a1 → X 0 0 L (kv c1 a1 g) 44 [some (.ref 3), some (.int (iI 1)), v2] [] := by
    intro c1 a1 v2 hP
    refine C.iload_n dX2_readActs_44 rfl ?_
    refine C.retI rfl (by first | rfl | (exact (iI_bool (by first | exact Or.inl rfl | exact Or.inr rfl | assumption)).1)) dX2_readActs_45 (Nat.le_refl _) (Nat.le_refl _) ⟨_, _, ?_, rfl, rfl⟩
    exact hP
  have bad : ∀ (j : Nat) (c1 : SF) (a1 : SA), 1 ≤ j → j ≤ 3 → AcPo tb e ts c a (actF tb e 3 [] p false) (some (.int (iI 0))) c1 a1 → X 0 0 L (kv c1 a1 g) 12 [some (.ref 3), some (.int (iI 0)), some (.int (iI j))] [] := by
    intro j c1 a1 h1 h2 hP
    refine C.iload_n dX2_readActs_12 rfl ?_
    refine C.ic dX2_readActs_13 ?_
    refine C.icmp_geI (tgt := 44) dX2_readActs_14 (by decide) (by omega) (by omega) (fun hc14 => ?_) (fun hc14 => ?_)
    · exact out0 _ _ _ hP
    · refine C.iload_n dX2_readActs_17 rfl ?_
      refine C.if_eqI (tgt := 44) dX2_readActs_18 (by decide) (by decide) (fun hc18 => ?_) (fun hc18 => absurd hc18 (by decide))
      exact out0 _ _ _ hP
  have loop : ∀ (n : Nat) (xs : List Int) (c1 : SF) (a1 : SA) (i1 p1 : Nat), xs.length + n = 3 → 1 ≤ xs.length → actF tb e 3 [] p false = rstA tb e n xs p1 → TsAt c1 a1 ts e i1 → Tk tb e ts i1 p1 → AcS c1 a1 xs → Gr c c1 a a1 → c1 32 = c 32 → c1 33 = c 33 → X 0 0 L (kv c1 a1 g) 12 [some (.ref 3), some (.int (iI 1)), some (.int (iI xs.length))] [] := by
    intro n
    induction n with
    | zero =>
      intro xs c1 a1 i1 p1 hn h1 hs hT1 hk1 hA1 hG e1 e2
      have h3 : xs.length = 3 := by omega
      unfold rstA at hs
      refine C.iload_n dX2_readActs_12 rfl ?_
      refine C.ic dX2_readActs_13 ?_
      refine C.icmp_geI (tgt := 44) dX2_readActs_14 (by decide) (by omega) (by omega) (fun hc14 => ?_) (fun hc14 => absurd hc14 (by omega))
      refine out1 _ _ _ ⟨hG, e1, e2, ?_⟩
      rw [hs]
      cases hps : psP tb e p1 zAnd with
      | true =>
        rw [if_pos rfl, if_pos h3]
        exact Or.inr ⟨rfl, i1, p1, xs, hT1, hk1, hA1, h3, hps, rfl⟩
      | false =>
        rw [if_neg (by decide)]
        exact ⟨rfl, i1, hT1, hk1.bl, hA1, h1⟩
    | succ n ih =>
      intro xs c1 a1 i1 p1 hn h1 hs hT1 hk1 hA1 hG e1 e2
      have h3 : ¬ xs.length = 3 := by omega
      unfold rstA at hs
      obtain ⟨y1, y2⟩ := tk_is (w := 7) (by omega) hk1
      change tkIs ts i1 7 = psP tb e p1 zAnd at y1
      change psP tb e p1 zAnd = true → _ at y2
      cases hps : psP tb e p1 zAnd with
      | false =>
        rw [hps, if_neg (by decide)] at hs
        have M := b_takeF (d := d - 1) (g := g) (w := 7) (by unfold i3; decide) hL hT1 (y1.trans hps)
        refine C.iload_n dX2_readActs_12 rfl ?_
        refine C.ic dX2_readActs_13 ?_
        refine C.icmp_geI (tgt := 44) dX2_readActs_14 (by decide) (by omega) (by omega) (fun hc14 => absurd hc14 (by omega)) (fun hc14 => ?_)
        refine C.iload_n dX2_readActs_17 rfl ?_
        refine C.if_eqI (tgt := 44) dX2_readActs_18 (by decide) (by decide) (fun hc18 => absurd hc18 (by decide)) (fun hc18 => ?_)
        refine C.aload_n dX2_readActs_21 rfl ?_
        refine C.getf gf_X2_21 dX2_readActs_22 (hL _ (by decide)) rfl rfl ?_
        refine C.bi dX2_readActs_25 (by decide) ?_
        refine C.kcall (M) cw_X6_take ml_X2_54 im_X6_take sl_X6_take dX2_readActs_27 (hL _ (by decide)) rfl rfl rfl (by omega) (Nat.le_refl _) (Nat.le_refl _) (Nat.le_of_ble_eq_true rfl) rfl (fun r27 c27 a27 hR27 => ?_)
        obtain ⟨rfl, hs, ha⟩ := hR27
        rw [hs, ha]
        clear hs ha
        refine C.if_eqI (tgt := 44) dX2_readActs_30 (by decide) (by decide) (fun hc30 => ?_) (fun hc30 => absurd hc30 (by decide))
        refine out1 _ _ _ ⟨hG, e1, e2, ?_⟩
        rw [hs]
        exact ⟨rfl, i1, hT1, hk1.bl, hA1, h1⟩
      | true =>
        rw [hps, if_pos rfl, if_neg h3, actF_step (n := n) (xs := xs)] at hs
        have M := b_takeT (d := d - 1) (g := g) (w := 7) (by unfold i3; decide) hL hT1 (y1.trans hps)
        have hlt := tk_lt (y1.trans hps)
        have hT2 := hT1.at hlt
        have hk2 := y2 hps
        have M2 := b_readAct (d := d - 1) (g := g) (by omega) hL hT2 hk2 (xs := xs) hA1 (by omega)
        have hG2 : Gr c (va_up c1 65 ((i1 + 1 : Nat) : Int)) a a1 := hG.up (Or.inr (Or.inr (Or.inr rfl)))
        generalize wend tb e (bl tb e p1) = pw at *
        cases hac : psP tb e pw zAct with
        | false =>
          rw [hac, if_neg (by decide)] at hs
          refine C.iload_n dX2_readActs_12 rfl ?_
          refine C.ic dX2_readActs_13 ?_
          refine C.icmp_geI (tgt := 44) dX2_readActs_14 (by decide) (by omega) (by omega) (fun hc14 => absurd hc14 (by omega)) (fun hc14 => ?_)
          refine C.iload_n dX2_readActs_17 rfl ?_
          refine C.if_eqI (tgt := 44) dX2_readActs_18 (by decide) (by decide) (fun hc18 => absurd hc18 (by decide)) (fun hc18 => ?_)
          refine C.aload_n dX2_readActs_21 rfl ?_
          refine C.getf gf_X2_21 dX2_readActs_22 (hL _ (by decide)) rfl rfl ?_
          refine C.bi dX2_readActs_25 (by decide) ?_
          refine C.kcall (M) cw_X6_take ml_X2_54 im_X6_take sl_X6_take dX2_readActs_27 (hL _ (by decide)) rfl rfl rfl (by omega) (Nat.le_refl _) (Nat.le_refl _) (Nat.le_of_ble_eq_true rfl) rfl (fun r27 c27 a27 hR27 => ?_)
          obtain ⟨rfl, hs, ha⟩ := hR27
          rw [hs, ha]
          clear hs ha
          refine C.if_eqI (tgt := 44) dX2_readActs_30 (by decide) (by decide) (fun hc30 => absurd hc30 (by decide)) (fun hc30 => ?_)
          refine C.aload_n dX2_readActs_33 rfl ?_
          refine C.kcall (M2) cw_X2_readAct ml_X2_99 im_X2_readAct sl_X2_readAct dX2_readActs_34 (hL _ (by decide)) rfl rfl rfl (by omega) (Nat.le_refl _) (Nat.le_refl _) (Nat.le_of_ble_eq_true rfl) rfl (fun r34 c34 a34 hR34 => ?_)
          obtain ⟨rfl, hs2, ha2⟩ := hR34.1 hac
          rw [hs2, ha2]
          clear hs2 ha2
          refine C.istore_n dX2_readActs_37 (by decide) rfl ?_
          refine C.iincI dX2_readActs_38 rfl (by decide) rfl ?_
          refine C.goto (tgt := 12) dX2_readActs_41 (by decide) ?_
          refine bad (xs.length + 1) _ _ (by omega) (by omega) ⟨hG2, e1, e2, ?_⟩
          rw [hs]
          exact Or.inl ⟨rfl, i1 + 1, hT2, tk_beg hk2⟩
        | true =>
          rw [hac, if_pos rfl] at hs
          by_cases hbad : nmV tb e (bl tb e (wend tb e (bl tb e pw))) 0 9 ∈ xs ∨ nmV tb e (bl tb e (wend tb e (bl tb e pw))) 0 9 < 0
          · rw [if_pos hbad] at hs
            refine C.iload_n dX2_readActs_12 rfl ?_
            refine C.ic dX2_readActs_13 ?_
            refine C.icmp_geI (tgt := 44) dX2_readActs_14 (by decide) (by omega) (by omega) (fun hc14 => absurd hc14 (by omega)) (fun hc14 => ?_)
            refine C.iload_n dX2_readActs_17 rfl ?_
            refine C.if_eqI (tgt := 44) dX2_readActs_18 (by decide) (by decide) (fun hc18 => absurd hc18 (by decide)) (fun hc18 => ?_)
            refine C.aload_n dX2_readActs_21 rfl ?_
            refine C.getf gf_X2_21 dX2_readActs_22 (hL _ (by decide)) rfl rfl ?_
            refine C.bi dX2_readActs_25 (by decide) ?_
            refine C.kcall (M) cw_X6_take ml_X2_54 im_X6_take sl_X6_take dX2_readActs_27 (hL _ (by decide)) rfl rfl rfl (by omega) (Nat.le_refl _) (Nat.le_refl _) (Nat.le_of_ble_eq_true rfl) rfl (fun r27 c27 a27 hR27 => ?_)
            obtain ⟨rfl, hs, ha⟩ := hR27
            rw [hs, ha]
            clear hs ha
            refine C.if_eqI (tgt := 44) dX2_readActs_30 (by decide) (by decide) (fun hc30 => absurd hc30 (by decide)) (fun hc30 => ?_)
            refine C.aload_n dX2_readActs_33 rfl ?_
            refine C.kcall (M2) cw_X2_readAct ml_X2_99 im_X2_readAct sl_X2_readAct dX2_readActs_34 (hL _ (by decide)) rfl rfl rfl (by omega) (Nat.le_refl _) (Nat.le_refl _) (Nat.le_of_ble_eq_true rfl) rfl (fun r34 c34 a34 hR34 => ?_)
            obtain ⟨rfl, hs2, ha2, hk3, hlt3⟩ := hR34.2.1 hac hbad
            rw [upSF] at hs2
            rw [hs2, ha2]
            clear hs2 ha2
            refine C.istore_n dX2_readActs_37 (by decide) rfl ?_
            refine C.iincI dX2_readActs_38 rfl (by decide) rfl ?_
            refine C.goto (tgt := 12) dX2_readActs_41 (by decide) ?_
            refine bad (xs.length + 1) _ _ (by omega) (by omega) ⟨hG.up (Or.inr (Or.inr (Or.inr rfl))), e1, e2, ?_⟩
            rw [hs]
            exact Or.inl ⟨rfl, i1 + 1 + 1, hT1.at hlt3, tk_beg hk3⟩
          · rw [if_neg hbad] at hs
            refine C.iload_n dX2_readActs_12 rfl ?_
            refine C.ic dX2_readActs_13 ?_
            refine C.icmp_geI (tgt := 44) dX2_readActs_14 (by decide) (by omega) (by omega) (fun hc14 => absurd hc14 (by omega)) (fun hc14 => ?_)
            refine C.iload_n dX2_readActs_17 rfl ?_
            refine C.if_eqI (tgt := 44) dX2_readActs_18 (by decide) (by decide) (fun hc18 => absurd hc18 (by decide)) (fun hc18 => ?_)
            refine C.aload_n dX2_readActs_21 rfl ?_
            refine C.getf gf_X2_21 dX2_readActs_22 (hL _ (by decide)) rfl rfl ?_
            refine C.bi dX2_readActs_25 (by decide) ?_
            refine C.kcall (M) cw_X6_take ml_X2_54 im_X6_take sl_X6_take dX2_readActs_27 (hL _ (by decide)) rfl rfl rfl (by omega) (Nat.le_refl _) (Nat.le_refl _) (Nat.le_of_ble_eq_true rfl) rfl (fun r27 c27 a27 hR27 => ?_)
            obtain ⟨rfl, hs, ha⟩ := hR27
            rw [hs, ha]
            clear hs ha
            refine C.if_eqI (tgt := 44) dX2_readActs_30 (by decide) (by decide) (fun hc30 => absurd hc30 (by decide)) (fun hc30 => ?_)
            refine C.aload_n dX2_readActs_33 rfl ?_
            refine C.kcall (M2) cw_X2_readAct ml_X2_99 im_X2_readAct sl_X2_readAct dX2_readActs_34 (hL _ (by decide)) rfl rfl rfl (by omega) (Nat.le_refl _) (Nat.le_refl _) (Nat.le_of_ble_eq_true rfl) rfl (fun r34 c34 a34 hR34 => ?_)
            obtain ⟨rfl, hG3, e3, e4, hT3, hk3, hA3⟩ := hR34.2.2 hac hbad
            refine C.istore_n dX2_readActs_37 (by decide) rfl ?_
            refine C.iincI dX2_readActs_38 rfl (by decide) rfl ?_
            refine C.goto (tgt := 12) dX2_readActs_41 (by decide) ?_
            skip
            have nx := ih (xs ++ [nmV tb e (bl tb e (wend tb e (bl tb e pw))) 0 9]) c34 a34 _ _ (by rw [List.length_append]; show xs.length + 1 + n = 3; omega) (by rw [List.length_append]; omega) hs hT3 hk3 hA3 (hG2.tr hG3) (e3.trans e1) (e4.trans e2)
            rw [List.length_append] at nx
            exact nx
  have hT0 : TsAt (va_up c 35 0) a ts e i := hT
  have hA0 : AcS (va_up c 35 0) a [] := ⟨rfl, by decide, (fun j v h => by cases h), (fun v h => by cases h), List.nodup_nil⟩
  have hG0 : Gr c (va_up c 35 0) a a := Gr.rf.up (Or.inr (Or.inr (Or.inl rfl)))
  have M := b_readAct (d := d - 1) (g := g) (by omega) hL hT0 hk hA0 (by decide)
  have hs := actF_step (tb := tb) (e := e) (n := 2) (xs := []) (p := p)
  cases hac : psP tb e p zAct with
  | false =>
    rw [hac, if_neg (by decide)] at hs
    refine C.aload_n dX2_readActs_0 rfl ?_
    refine C.ic dX2_readActs_1 ?_
    refine C.kput_35 hL pf_X2_38 dX2_readActs_2 ?_
    refine C.aload_n dX2_readActs_5 rfl ?_
    refine C.kcall (M) cw_X2_readAct ml_X2_99 im_X2_readAct sl_X2_readAct dX2_readActs_6 (hL _ (by decide)) rfl rfl rfl (by omega) (Nat.le_refl _) (Nat.le_refl _) (Nat.le_of_ble_eq_true rfl) rfl (fun r6 c6 a6 hR6 => ?_)
    obtain ⟨rfl, hs2, ha2⟩ := hR6.1 hac
    rw [hs2, ha2]
    clear hs2 ha2
    refine C.istore_n dX2_readActs_9 (by decide) rfl ?_
    refine C.ic dX2_readActs_10 ?_
    refine C.istore_n dX2_readActs_11 (by decide) rfl ?_
    refine bad 1 _ _ (by omega) (by omega) ⟨hG0, rfl, rfl, ?_⟩
    rw [hs]
    exact Or.inl ⟨rfl, i, hT0, tk_beg hk⟩
  | true =>
    rw [hac, if_pos rfl] at hs
    by_cases hbad : nmV tb e (bl tb e (wend tb e (bl tb e p))) 0 9 ∈ ([] : List Int) ∨ nmV tb e (bl tb e (wend tb e (bl tb e p))) 0 9 < 0
    · rw [if_pos hbad] at hs
      refine C.aload_n dX2_readActs_0 rfl ?_
      refine C.ic dX2_readActs_1 ?_
      refine C.kput_35 hL pf_X2_38 dX2_readActs_2 ?_
      refine C.aload_n dX2_readActs_5 rfl ?_
      refine C.kcall (M) cw_X2_readAct ml_X2_99 im_X2_readAct sl_X2_readAct dX2_readActs_6 (hL _ (by decide)) rfl rfl rfl (by omega) (Nat.le_refl _) (Nat.le_refl _) (Nat.le_of_ble_eq_true rfl) rfl (fun r6 c6 a6 hR6 => ?_)
      obtain ⟨rfl, hs2, ha2, hk3, hlt3⟩ := hR6.2.1 hac hbad
      rw [hs2, ha2]
      clear hs2 ha2
      refine C.istore_n dX2_readActs_9 (by decide) rfl ?_
      refine C.ic dX2_readActs_10 ?_
      refine C.istore_n dX2_readActs_11 (by decide) rfl ?_
      refine bad 1 _ _ (by omega) (by omega) ⟨hG0.up (Or.inr (Or.inr (Or.inr rfl))), rfl, rfl, ?_⟩
      rw [hs]
      exact Or.inl ⟨rfl, i + 1, hT0.at hlt3, tk_beg hk3⟩
    · rw [if_neg hbad] at hs
      refine C.aload_n dX2_readActs_0 rfl ?_
      refine C.ic dX2_readActs_1 ?_
      refine C.kput_35 hL pf_X2_38 dX2_readActs_2 ?_
      refine C.aload_n dX2_readActs_5 rfl ?_
      refine C.kcall (M) cw_X2_readAct ml_X2_99 im_X2_readAct sl_X2_readAct dX2_readActs_6 (hL _ (by decide)) rfl rfl rfl (by omega) (Nat.le_refl _) (Nat.le_refl _) (Nat.le_of_ble_eq_true rfl) rfl (fun r6 c6 a6 hR6 => ?_)
      obtain ⟨rfl, hG3, e3, e4, hT3, hk3, hA3⟩ := hR6.2.2 hac hbad
      refine C.istore_n dX2_readActs_9 (by decide) rfl ?_
      refine C.ic dX2_readActs_10 ?_
      refine C.istore_n dX2_readActs_11 (by decide) rfl ?_
      exact loop 2 ([] ++ [nmV tb e (bl tb e (wend tb e (bl tb e p))) 0 9]) c6 a6 _ _ rfl (by simp) hs hT3 hk3 hA3 (hG0.tr hG3) e3 e4
end ACTS
