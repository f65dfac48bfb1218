/-! sentences, written by the class -/
section WRS
variable {d : Nat} {c : SF} {a : SA} {L : List Nat} {g : Nat → AC} {T : List Int}
abbrev dT (T : List Int) : Bool := decide (0 < T.length)
theorem w_w {w : Nat} (z : List Int) (hz : zW.getD w [] = z) (hw : w < 16) (hd : 5 ≤ d) (hL : ∀ k, k < 36 → k ∈ L) (hW : WS c a T) (h112 : c 112 = b2i false) (hl : T.length < 14900) : KA yX7_writeWord cX7_writeWord 4 none d [.ref 11, .int (iI w)] L g c a (WP c a (T ++ (sp (dT T) ++ z)) false) := by
  have M := w_word (d := d) (g := g) hw hd hL hW h112 hl
  rw [hz] at M
  exact M
theorem w_n {v : Int} (hv : 0 ≤ v ∧ v ≤ 999) (hd : 2 ≤ d) (hL : ∀ k, k < 36 → k ∈ L) (hW : WS c a T) (h112 : c 112 = b2i false) (hl : T.length < 14900) : KA yX7_writeNumber cX7_writeNumber 2 none d [.ref 11, .int (iI v)] L g c a (WP c a (T ++ (sp (dT T) ++ dgL v)) false) := w_number hv hd hL hW h112 hl
theorem dT_app {xs : List Int} (h : 0 < xs.length) : dT (T ++ xs) = true := by
  unfold dT
  rw [List.length_append, decide_eq_true (by omega)]
theorem dT_of (h : 0 < T.length) : dT T = true := decide_eq_true h
theorem dgL_len (v : Int) : 1 ≤ (dgL v).length ∧ (dgL v).length ≤ 3 := by
  unfold dgL
  repeat' split
  all_goals simp
theorem w_mode {m : Int} (hm : 0 ≤ m ∧ m ≤ 2) (hd : 6 ≤ d) (hL : ∀ k, k < 36 → k ∈ L) (hW : WS c a T) (h112 : c 112 = b2i false) (hl : T.length < 14800) : KA yX7_writeMode cX7_writeMode 2 none d [.ref 11, .int (iI m)] L g c a (WP c a (T ++ (sp (dT T) ++ moT m)) false) := by
  have hsl := sp_len (dT T)
  refine KA.of (by decide +kernel) rfl (Nat.le_of_ble_eq_true rfl) (fun X C => ?_)
  have j14 : ∀ (c1 : SF) (a1 : SA) (z0 : List Int), WS c1 a1 (T ++ (sp (dT T) ++ z0)) → 0 < z0.length → z0.length ≤ 4 → c1 112 = b2i false → GW c c1 a a1 → moT m = z0 ++ (if m = 1 then 32 :: zNot else []) → X 0 0 L (kv c1 a1 g) 14 [some (.ref 11), some (.int (iI m))] [] := by
    intro c1 a1 z0 hW1 hz0 hz4 h1 hG hmo
    by_cases hm1 : m = 1
    · have M := w_w (d := d - 1) (g := g) (w := 4) zNot rfl (by omega) (by omega) hL hW1 h1 (by rw [List.length_append, List.length_append]; omega)
      rw [dT_app (by rw [List.length_append]; omega)] at M
      refine C.iload_n dX7_writeMode_14 rfl ?_
      refine C.ic dX7_writeMode_15 ?_
      refine C.icmp_neI (tgt := 24) dX7_writeMode_16 (by decide) (by omega) (by omega) (fun hc16 => absurd hc16 (by omega)) (fun hc16 => ?_)
      refine C.aload_n dX7_writeMode_19 rfl ?_
      refine C.ic dX7_writeMode_20 ?_
      refine C.kcall (M) cw_X7_writeWord ml_X7_50 im_X7_writeWord sl_X7_writeWord dX7_writeMode_21 (hL _ (by decide)) rfl rfl rfl (by omega) (Nat.le_refl _) (Nat.le_refl _) (Nat.le_of_ble_eq_true rfl) rfl (fun r21 c21 a21 hR21 => ?_)
      obtain ⟨rfl, q1, q2, q3⟩ := hR21
      refine C.vret rfl dX7_writeMode_24 (Nat.le_refl _) (Nat.le_refl _) ⟨_, _, ?_, rfl, rfl⟩
      refine ⟨rfl, ?_, q2, hG.tr q3⟩
      rw [hmo, if_pos hm1, show T ++ (sp (dT T) ++ (z0 ++ 32 :: zNot)) = T ++ (sp (dT T) ++ z0) ++ (sp true ++ zNot) by simp [sp]]
      exact q1
    · refine C.iload_n dX7_writeMode_14 rfl ?_
      refine C.ic dX7_writeMode_15 ?_
      refine C.icmp_neI (tgt := 24) dX7_writeMode_16 (by decide) (by omega) (by omega) (fun hc16 => ?_) (fun hc16 => absurd hc16 (by omega))
      refine C.vret rfl dX7_writeMode_24 (Nat.le_refl _) (Nat.le_refl _) ⟨_, _, ?_, rfl, rfl⟩
      refine ⟨rfl, ?_, h1, hG⟩
      rw [hmo, if_neg hm1, List.append_nil]
      exact hW1
  by_cases hm2 : m = 2
  · have M := w_w (d := d - 1) (g := g) (w := 5) zMay rfl (by omega) (by omega) hL hW h112 (by omega)
    refine C.aload_n dX7_writeMode_0 rfl ?_
    refine C.iload_n dX7_writeMode_1 rfl ?_
    refine C.ic dX7_writeMode_2 ?_
    refine C.icmp_neI (tgt := 10) dX7_writeMode_3 (by decide) (by omega) (by omega) (fun hc3 => absurd hc3 (by omega)) (fun hc3 => ?_)
    refine C.ic dX7_writeMode_6 ?_
    refine C.goto (tgt := 11) dX7_writeMode_7 (by decide) ?_
    refine C.kcall (M) cw_X7_writeWord ml_X7_50 im_X7_writeWord sl_X7_writeWord dX7_writeMode_11 (hL _ (by decide)) rfl rfl rfl (by omega) (Nat.le_refl _) (Nat.le_refl _) (Nat.le_of_ble_eq_true rfl) rfl (fun r11 c11 a11 hR11 => ?_)
    obtain ⟨rfl, q1, q2, q3⟩ := hR11
    exact j14 _ _ zMay q1 (by decide) (by decide) q2 q3 (by unfold moT; rw [if_pos hm2])
  · have M := w_w (d := d - 1) (g := g) (w := 3) zMust rfl (by omega) (by omega) hL hW h112 (by omega)
    refine C.aload_n dX7_writeMode_0 rfl ?_
    refine C.iload_n dX7_writeMode_1 rfl ?_
    refine C.ic dX7_writeMode_2 ?_
    refine C.icmp_neI (tgt := 10) dX7_writeMode_3 (by decide) (by omega) (by omega) (fun hc3 => ?_) (fun hc3 => absurd hc3 (by omega))
    refine C.ic dX7_writeMode_10 ?_
    refine C.kcall (M) cw_X7_writeWord ml_X7_50 im_X7_writeWord sl_X7_writeWord dX7_writeMode_11 (hL _ (by decide)) rfl rfl rfl (by omega) (Nat.le_refl _) (Nat.le_refl _) (Nat.le_of_ble_eq_true rfl) rfl (fun r11 c11 a11 hR11 => ?_)
    obtain ⟨rfl, q1, q2, q3⟩ := hR11
    exact j14 _ _ zMust q1 (by decide) (by decide) q2 q3 (by unfold moT; rw [if_neg hm2])
theorem whT_w {w : Nat} (h : w ≤ 2) : zW.getD w [] = whT w := by
  rcases (show w = 0 ∨ w = 1 ∨ w = 2 by omega) with rfl | rfl | rfl <;> rfl
theorem whT_len (w : Int) : 0 < (whT w).length ∧ (whT w).length ≤ 4 := by
  unfold whT
  repeat' split
  all_goals decide
theorem w_done {w : Int} (hw : 0 ≤ w ∧ w ≤ 3) (hd : 6 ≤ d) (hL : ∀ k, k < 36 → k ∈ L) (hW : WS c a T) (h112 : c 112 = b2i false) (h0 : 0 < T.length) (hl : T.length < 14800) : KA yX7_writeDone cX7_writeDone 2 none d [.ref 11, .int (iI w)] L g c a (WP c a (T ++ ((sp true ++ zBe) ++ (sp true ++ zDone) ++ (if w < 3 then (sp true ++ zBy) ++ (sp true ++ whT w) else []))) false) := by
  have M1 := w_w (d := d - 1) (g := g) (w := 9) zBe rfl (by omega) (by omega) hL hW h112 (by omega)
  rw [dT_of h0] at M1
  refine KA.of (by decide +kernel) rfl (Nat.le_of_ble_eq_true rfl) (fun X C => ?_)
  refine C.aload_n dX7_writeDone_0 rfl ?_
  refine C.bi dX7_writeDone_1 (by decide) ?_
  refine C.kcall (M1) cw_X7_writeWord ml_X7_50 im_X7_writeWord sl_X7_writeWord dX7_writeDone_3 (hL _ (by decide)) rfl rfl rfl (by omega) (Nat.le_refl _) (Nat.le_refl _) (Nat.le_of_ble_eq_true rfl) rfl (fun r3 c3 a3 hR3 => ?_)
  obtain ⟨rfl, q1, q2, q3⟩ := hR3
  skip
  have l1 : (T ++ (sp true ++ zBe)).length = T.length + 3 := by rw [List.length_append]; rfl
  have M2 := w_w (d := d - 1) (g := g) (w := 10) zDone rfl (by omega) (by omega) hL q1 q2 (by omega)
  rw [dT_of (by omega)] at M2
  refine C.aload_n dX7_writeDone_6 rfl ?_
  refine C.bi dX7_writeDone_7 (by decide) ?_
  refine C.kcall (M2) cw_X7_writeWord ml_X7_50 im_X7_writeWord sl_X7_writeWord dX7_writeDone_9 (hL _ (by decide)) rfl rfl rfl (by omega) (Nat.le_refl _) (Nat.le_refl _) (Nat.le_of_ble_eq_true rfl) rfl (fun r9 c9 a9 hR9 => ?_)
  obtain ⟨rfl, y1, y2, y3⟩ := hR9
  skip
  have l2 : (T ++ (sp true ++ zBe) ++ (sp true ++ zDone)).length = T.length + 8 := by rw [List.length_append, l1]; rfl
  by_cases hw3 : w < 3
  · have M3 := w_w (d := d - 1) (g := g) (w := 11) zBy rfl (by omega) (by omega) hL y1 y2 (by omega)
    rw [dT_of (by omega)] at M3
    refine C.iload_n dX7_writeDone_12 rfl ?_
    refine C.ic dX7_writeDone_13 ?_
    refine C.icmp_eqI (tgt := 28) dX7_writeDone_14 (by decide) (by omega) (by omega) (fun hc14 => absurd hc14 (by omega)) (fun hc14 => ?_)
    refine C.aload_n dX7_writeDone_17 rfl ?_
    refine C.bi dX7_writeDone_18 (by decide) ?_
    refine C.kcall (M3) cw_X7_writeWord ml_X7_50 im_X7_writeWord sl_X7_writeWord dX7_writeDone_20 (hL _ (by decide)) rfl rfl rfl (by omega) (Nat.le_refl _) (Nat.le_refl _) (Nat.le_of_ble_eq_true rfl) rfl (fun r20 c20 a20 hR20 => ?_)
    obtain ⟨rfl, x1, x2, x3⟩ := hR20
    skip
    have l3 : (T ++ (sp true ++ zBe) ++ (sp true ++ zDone) ++ (sp true ++ zBy)).length = T.length + 11 := by rw [List.length_append, l2]; rfl
    have M4 := w_w (d := d - 1) (g := g) (w := w.toNat) (whT w) (by rw [whT_w (by omega)]; congr 1; omega) (by omega) (by omega) hL x1 x2 (by omega)
    rw [dT_of (by omega), show ((w.toNat : Nat) : Int) = w by omega] at M4
    refine C.aload_n dX7_writeDone_23 rfl ?_
    refine C.iload_n dX7_writeDone_24 rfl ?_
    refine C.kcall (M4) cw_X7_writeWord ml_X7_50 im_X7_writeWord sl_X7_writeWord dX7_writeDone_25 (hL _ (by decide)) rfl rfl rfl (by omega) (Nat.le_refl _) (Nat.le_refl _) (Nat.le_of_ble_eq_true rfl) rfl (fun r25 c25 a25 hR25 => ?_)
    obtain ⟨rfl, z1, z2, z3⟩ := hR25
    refine C.vret rfl dX7_writeDone_28 (Nat.le_refl _) (Nat.le_refl _) ⟨_, _, ?_, rfl, rfl⟩
    refine ⟨rfl, ?_, z2, ((q3.tr y3).tr x3).tr z3⟩
    rw [if_pos hw3, show T ++ (sp true ++ zBe ++ (sp true ++ zDone) ++ (sp true ++ zBy ++ (sp true ++ whT w))) = T ++ (sp true ++ zBe) ++ (sp true ++ zDone) ++ (sp true ++ zBy) ++ (sp true ++ whT w) by simp only [List.append_assoc]]
    exact z1
  · refine C.iload_n dX7_writeDone_12 rfl ?_
    refine C.ic dX7_writeDone_13 ?_
    refine C.icmp_eqI (tgt := 28) dX7_writeDone_14 (by decide) (by omega) (by omega) (fun hc14 => ?_) (fun hc14 => absurd hc14 (by omega))
    refine C.vret rfl dX7_writeDone_28 (Nat.le_refl _) (Nat.le_refl _) ⟨_, _, ?_, rfl, rfl⟩
    refine ⟨rfl, ?_, y2, q3.tr y3⟩
    rw [if_neg hw3, List.append_nil, ← List.append_assoc]
    exact y1
theorem acR_len {xs : List Int} : (acR xs).length ≤ 12 * xs.length := by
  unfold acR
  induction xs with
  | nil => exact Nat.zero_le _
  | cons v vs ih =>
    have := dgL_len v
    rw [List.flatMap_cons, List.length_append, List.length_cons]
    simp only [List.length_append, List.length_cons, List.length_nil]
    omega
theorem w_acts {e : Nat} {xs : List Int} (hd : 6 ≤ d) (hL : ∀ k, k < 36 → k ∈ L) (he : RwI L g e xs) (h1x : 1 ≤ xs.length) (h3x : xs.length ≤ 3) (h9 : ∀ v ∈ xs, 0 ≤ v ∧ v ≤ 9) (hW : WS c a T) (h112 : c 112 = b2i false) (hl : T.length < 14700) : KA yX7_writeActs cX7_writeActs 3 none d [.ref 11, .ref e] L g c a (WP c a (T ++ acT (dT T) xs) false) := by
  obtain ⟨heL, he2, gg, hfe, hgg⟩ := he
  have hfe' : ∀ c a, kv c a g e = aI xs.length gg := fun c a => (kv_ge (by omega)).trans hfe
  have hsl := sp_len (dT T)
  generalize hF : dT T = F at *
  refine KA.of (by decide +kernel) rfl (Nat.le_of_ble_eq_true rfl) (fun X C => ?_)
  have one : ∀ (v : Int) (done : List Int) (c1 : SF) (a1 : SA) (T1 : List Int) (F1 : Bool), xs[done.length]? = some v → dT T1 = F1 → WS c1 a1 T1 → c1 112 = b2i false → T1.length < 14800 → GW c c1 a a1 → (∀ (c2 : SF) (a2 : SA), WS c2 a2 (T1 ++ (sp F1 ++ zAct ++ 32 :: dgL v)) → c2 112 = b2i false → GW c c2 a a2 → X 0 0 L (kv c2 a2 g) 2 [some (.ref 11), some (.ref e), some (.int (iI ((done.length : Int) + 1)))] []) → X 0 0 L (kv c1 a1 g) 18 [some (.ref 11), some (.ref e), some (.int (iI done.length))] [] := by
    intro v done c1 a1 T1 F1 hvi hF1 hW1 h1 hl1 hG kk
    have hv9 := h9 v (List.mem_of_getElem? hvi)
    have hdl := (List.getElem?_eq_some_iff.mp hvi).1
    have hs1 := sp_len F1
    have M1 := w_w (d := d - 1) (g := g) (w := 6) zAct rfl (by omega) (by omega) hL hW1 h1 (by omega)
    rw [hF1] at M1
    have l1 : (T1 ++ (sp F1 ++ zAct)).length = T1.length + ((sp F1).length + 3) := by rw [List.length_append, List.length_append]; rfl
    refine C.aload_n dX7_writeActs_18 rfl ?_
    refine C.bi dX7_writeActs_19 (by decide) ?_
    refine C.kcall (M1) cw_X7_writeWord ml_X7_50 im_X7_writeWord sl_X7_writeWord dX7_writeActs_21 (hL _ (by decide)) rfl rfl rfl (by omega) (Nat.le_refl _) (Nat.le_refl _) (Nat.le_of_ble_eq_true rfl) rfl (fun r21 c21 a21 hR21 => ?_)
    obtain ⟨rfl, q1, q2, q3⟩ := hR21
    skip
    have M2 := w_n (d := d - 1) (g := g) (v := v) (by omega) (by omega) hL q1 q2 (by omega)
    rw [dT_of (by omega)] at M2
    refine C.aload_n dX7_writeActs_24 rfl ?_
    refine C.aload_n dX7_writeActs_25 rfl ?_
    refine C.iload_n dX7_writeActs_26 rfl ?_
    refine C.ialdI dX7_writeActs_27 heL (hfe' _ _) (by omega) (by omega) ?_
    rw [Int.toNat_natCast, hgg _ v hvi]
    refine C.kcall (M2) cw_X7_writeNumber ml_X7_86 im_X7_writeNumber sl_X7_writeNumber dX7_writeActs_28 (hL _ (by decide)) rfl rfl rfl (by omega) (Nat.le_refl _) (Nat.le_refl _) (Nat.le_of_ble_eq_true rfl) rfl (fun r28 c28 a28 hR28 => ?_)
    obtain ⟨rfl, y1, y2, y3⟩ := hR28
    refine C.iincI dX7_writeActs_31 rfl (by decide) rfl ?_
    refine C.goto (tgt := 2) dX7_writeActs_34 (by decide) ?_
    skip
    refine kk c28 a28 ?_ y2 ((hG.tr q3).tr y3)
    rw [show T1 ++ (sp F1 ++ zAct ++ 32 :: dgL v) = T1 ++ (sp F1 ++ zAct) ++ (sp true ++ dgL v) by simp [sp]]
    exact y1
  have loop : ∀ (ys done : List Int) (c1 : SF) (a1 : SA), xs = done ++ ys → 1 ≤ done.length → WS c1 a1 (T ++ acT F done) → c1 112 = b2i false → GW c c1 a a1 → X 0 0 L (kv c1 a1 g) 2 [some (.ref 11), some (.ref e), some (.int (iI done.length))] [] := by
    intro ys
    induction ys with
    | nil =>
      intro done c1 a1 hdn hd1 hW1 h1 hG
      rw [List.append_nil] at hdn
      have hll : xs.length = done.length := by rw [hdn]
      refine C.iload_n dX7_writeActs_2 rfl ?_
      refine C.aload_n dX7_writeActs_3 rfl ?_
      refine C.alenI dX7_writeActs_4 heL (hfe' _ _) (by decide) ?_
      refine C.icmp_geI (tgt := 37) dX7_writeActs_5 (by decide) (by omega) (by omega) (fun hc5 => ?_) (fun hc5 => absurd hc5 (by omega))
      refine C.vret rfl dX7_writeActs_37 (Nat.le_refl _) (Nat.le_refl _) ⟨_, _, ?_, rfl, rfl⟩
      exact ⟨rfl, by rw [hdn]; exact hW1, h1, hG⟩
    | cons y ys ih =>
      intro done c1 a1 hdn hd1 hW1 h1 hG
      have hll : xs.length = done.length + (ys.length + 1) := by rw [hdn, List.length_append, List.length_cons]
      have hyi : xs[done.length]? = some y := by rw [hdn, List.getElem?_append_right (Nat.le_refl _), Nat.sub_self]; rfl
      have hal : (acT F done).length ≤ 60 ∧ 0 < (acT F done).length := by
        cases done with
        | nil => simp at hd1
        | cons v vs =>
          have h1 := dgL_len v
          have h2 := sp_len F
          have h3 := acR_len (xs := vs)
          simp only [List.length_cons] at hll
          show ((sp F ++ zAct ++ 32 :: dgL v) ++ acR vs).length ≤ 60 ∧ 0 < ((sp F ++ zAct ++ 32 :: dgL v) ++ acR vs).length
          simp only [List.length_append, List.length_cons, List.length_nil]
          omega
      have hTl : (T ++ acT F done).length = T.length + (acT F done).length := List.length_append
      have M1 := w_w (d := d - 1) (g := g) (w := 7) zAnd rfl (by omega) (by omega) hL hW1 h1 (by omega)
      rw [dT_of (by omega)] at M1
      have l1 : (T ++ acT F done ++ (sp true ++ zAnd)).length = T.length + (acT F done).length + 4 := by rw [List.length_append, hTl]; rfl
      have nx := ih (done ++ [y])
      rw [List.length_append] at nx
      have hac : acT F (done ++ [y]) = acT F done ++ (32 :: zAnd ++ (32 :: zAct ++ 32 :: dgL y)) := by
        cases done with
        | nil => simp at hd1
        | cons v vs =>
          show (sp F ++ zAct ++ 32 :: dgL v) ++ acR (vs ++ [y]) = ((sp F ++ zAct ++ 32 :: dgL v) ++ acR vs) ++ _
          unfold acR
          rw [List.flatMap_append, List.flatMap_singleton]
          simp only [List.append_assoc]
      refine C.iload_n dX7_writeActs_2 rfl ?_
      refine C.aload_n dX7_writeActs_3 rfl ?_
      refine C.alenI dX7_writeActs_4 heL (hfe' _ _) (by decide) ?_
      refine C.icmp_geI (tgt := 37) dX7_writeActs_5 (by decide) (by omega) (by omega) (fun hc5 => absurd hc5 (by omega)) (fun hc5 => ?_)
      refine C.iload_n dX7_writeActs_8 rfl ?_
      refine C.if_leI (tgt := 18) dX7_writeActs_9 (by decide) (by omega) (fun hc9 => absurd hc9 (by omega)) (fun hc9 => ?_)
      refine C.aload_n dX7_writeActs_12 rfl ?_
      refine C.bi dX7_writeActs_13 (by decide) ?_
      refine C.kcall (M1) cw_X7_writeWord ml_X7_50 im_X7_writeWord sl_X7_writeWord dX7_writeActs_15 (hL _ (by decide)) rfl rfl rfl (by omega) (Nat.le_refl _) (Nat.le_refl _) (Nat.le_of_ble_eq_true rfl) rfl (fun r15 c15 a15 hR15 => ?_)
      obtain ⟨rfl, q1, q2, q3⟩ := hR15
      skip
      refine one y done c15 a15 _ true hyi (dT_of (by omega)) q1 q2 (by omega) (hG.tr q3) (fun c2 a2 hW2 h2 hG2 => ?_)
      refine nx c2 a2 (by rw [hdn, List.append_assoc]; rfl) (by omega) ?_ h2 hG2
      rw [hac, show T ++ (acT F done ++ (32 :: zAnd ++ (32 :: zAct ++ 32 :: dgL y))) = T ++ acT F done ++ (sp true ++ zAnd) ++ (sp true ++ zAct ++ 32 :: dgL y) by simp [sp]]
      exact hW2
  cases hxs : xs with
  | nil => rw [hxs] at h1x; simp at h1x
  | cons v vs =>
    rw [hxs] at loop
    refine C.ic dX7_writeActs_0 ?_
    refine C.istore_n dX7_writeActs_1 (by decide) rfl ?_
    refine C.iload_n dX7_writeActs_2 rfl ?_
    refine C.aload_n dX7_writeActs_3 rfl ?_
    refine C.alenI dX7_writeActs_4 heL (hfe' _ _) (by decide) ?_
    refine C.icmp_geI (tgt := 37) dX7_writeActs_5 (by decide) (by decide) (by omega) (fun hc5 => absurd hc5 (by omega)) (fun hc5 => ?_)
    refine C.iload_n dX7_writeActs_8 rfl ?_
    refine C.if_leI (tgt := 18) dX7_writeActs_9 (by decide) (by decide) (fun hc9 => ?_) (fun hc9 => absurd hc9 (by decide))
    skip
    refine one v [] c a T F (by rw [hxs]; rfl) hF hW h112 (by omega) GW.rf (fun c2 a2 hW2 h2 hG2 => ?_)
    refine loop vs [v] c2 a2 rfl (Nat.le_refl _) ?_ h2 hG2
    show WS c2 a2 (T ++ ((sp F ++ zAct ++ 32 :: dgL v) ++ acR []))
    rw [show acR [] = [] from rfl, List.append_nil]
    exact hW2
end WRS
