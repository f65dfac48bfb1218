section PW2
variable {d n : Nat} {L : List Nat} {f : Nat → AC} {c : SF} {a : SA} {e4 e13 e15 : Nat} {po pn : List (Nat × Sen)}
theorem f4_fdL (z0 z1 z2 z3 z4 : Int) : f4 z0 ++ f4 z1 ++ f4 z2 ++ f4 z3 ++ f4 z4 = fdL [z0, z1, z2, z3, z4] := rfl
theorem f4_len (z : Int) : (f4 z).length = 4 := by unfold f4; rw [List.length_map, List.length_range]
theorem k8_feed {g : Nat → AC} {z0 z1 z2 z3 z4 : Int} (hd : 1 ≤ d) (hL : ∀ k, k < 36 → k ∈ L) (hn : c 11 = n) (h4 : n ≤ 400) : KA yX8_feed cX8_feed 6 (some .int) d [.ref 0, .int (iI z0), .int (iI z1), .int (iI z2), .int (iI z3), .int (iI z4)] L g c a (fun r c' a' => r = some (.int (iI (if n + 20 ≤ 400 then (n : Int) + 20 else -1))) ∧ c' = (if n + 20 ≤ 400 then va_up c 11 ((n : Int) + 20) else c) ∧ a' = (if n + 20 ≤ 400 then wrS a 2 n (fdL [z0, z1, z2, z3, z4]) else a)) := by
  refine KA.of (by decide +kernel) rfl (Nat.le_of_ble_eq_true rfl) (fun X C => ?_)
  by_cases hr : n + 20 ≤ 400
  · have M0 := k_addNumber (d := d - 1) (g := g) (a := a) (z := z0) hL hn (by omega)
    have M1 := k_addNumber (d := d - 1) (g := g) (c := va_up c 11 ((n : Int) + 4)) (a := wrS a 2 n (f4 z0)) (n := n + 4) (z := z1) hL (by show (n : Int) + 4 = ((n + 4 : Nat) : Int); omega) (by omega)
    have M2 := k_addNumber (d := d - 1) (g := g) (c := va_up c 11 ((n : Int) + 8)) (a := wrS a 2 n (f4 z0 ++ f4 z1)) (n := n + 8) (z := z2) hL (by show (n : Int) + 8 = ((n + 8 : Nat) : Int); omega) (by omega)
    have M3 := k_addNumber (d := d - 1) (g := g) (c := va_up c 11 ((n : Int) + 12)) (a := wrS a 2 n (f4 z0 ++ f4 z1 ++ f4 z2)) (n := n + 12) (z := z3) hL (by show (n : Int) + 12 = ((n + 12 : Nat) : Int); omega) (by omega)
    have M4 := k_addNumber (d := d - 1) (g := g) (c := va_up c 11 ((n : Int) + 16)) (a := wrS a 2 n (f4 z0 ++ f4 z1 ++ f4 z2 ++ f4 z3)) (n := n + 16) (z := z4) hL (by show (n : Int) + 16 = ((n + 16 : Nat) : Int); omega) (by omega)
    have u : ∀ x y : Int, va_up (va_up c 11 x) 11 y = va_up c 11 y := fun x y => bx_uu _ _ _ _
    have w1 := wrS_app (sa := a) (a := 2) (b := n) (xs := f4 z0) (ys := f4 z1)
    have w2 := wrS_app (sa := a) (a := 2) (b := n) (xs := f4 z0 ++ f4 z1) (ys := f4 z2)
    have w3 := wrS_app (sa := a) (a := 2) (b := n) (xs := f4 z0 ++ f4 z1 ++ f4 z2) (ys := f4 z3)
    have w4 := wrS_app (sa := a) (a := 2) (b := n) (xs := f4 z0 ++ f4 z1 ++ f4 z2 ++ f4 z3) (ys := f4 z4)
    simp only [List.length_append, f4_len] at w1 w2 w3 w4
    rw [u, w1, show ((n + 4 : Nat) : Int) + 4 = (n : Int) + 8 by omega] at M1
    rw [u, w2, show ((n + 8 : Nat) : Int) + 4 = (n : Int) + 12 by omega] at M2
    rw [u, w3, show ((n + 12 : Nat) : Int) + 4 = (n : Int) + 16 by omega] at M3
    rw [u, w4, f4_fdL, show ((n + 16 : Nat) : Int) + 4 = (n : Int) + 20 by omega] at M4
    refine C.aload_n dX8_feed_0 rfl ?_
    refine C.getf gf_X8_10 dX8_feed_1 (hL _ (by decide)) rfl rfl ?_
    refine C.getf gf_X8_50 dX8_feed_4 (hL _ (by decide)) rfl rfl ?_
    refine C.topI (b := (n : Int)) hn ?_
    refine C.bi dX8_feed_7 (by decide) ?_
    refine C.iaddI dX8_feed_9 ?_
    refine C.si dX8_feed_10 (by decide) ?_
    refine C.icmp_leI (tgt := 18) dX8_feed_13 (by decide) (by omega) (by omega) (fun hc13 => ?_) (fun hc13 => absurd hc13 (by omega))
    refine C.aload_n dX8_feed_18 rfl ?_
    refine C.getf gf_X8_10 dX8_feed_19 (hL _ (by decide)) rfl rfl ?_
    refine C.iload_n dX8_feed_22 rfl ?_
    refine C.kcall (M0) cw_X4_addNumber ml_X8_53 im_X4_addNumber sl_X4_addNumber dX8_feed_23 (hL _ (by decide)) rfl rfl rfl (by omega) (Nat.le_refl _) (Nat.le_refl _) (Nat.le_of_ble_eq_true rfl) rfl (fun r23 c23 a23 hR23 => ?_)
    obtain ⟨rfl, hs, ha⟩ := hR23
    rw [hs, ha]
    clear hs ha
    refine C.aload_n dX8_feed_26 rfl ?_
    refine C.getf gf_X8_10 dX8_feed_27 (hL _ (by decide)) rfl rfl ?_
    refine C.iload_n dX8_feed_30 rfl ?_
    refine C.kcall (M1) cw_X4_addNumber ml_X8_53 im_X4_addNumber sl_X4_addNumber dX8_feed_31 (hL _ (by decide)) rfl rfl rfl (by omega) (Nat.le_refl _) (Nat.le_refl _) (Nat.le_of_ble_eq_true rfl) rfl (fun r31 c31 a31 hR31 => ?_)
    obtain ⟨rfl, hs, ha⟩ := hR31
    rw [hs, ha]
    clear hs ha
    refine C.aload_n dX8_feed_34 rfl ?_
    refine C.getf gf_X8_10 dX8_feed_35 (hL _ (by decide)) rfl rfl ?_
    refine C.iload_n dX8_feed_38 rfl ?_
    refine C.kcall (M2) cw_X4_addNumber ml_X8_53 im_X4_addNumber sl_X4_addNumber dX8_feed_39 (hL _ (by decide)) rfl rfl rfl (by omega) (Nat.le_refl _) (Nat.le_refl _) (Nat.le_of_ble_eq_true rfl) rfl (fun r39 c39 a39 hR39 => ?_)
    obtain ⟨rfl, hs, ha⟩ := hR39
    rw [hs, ha]
    clear hs ha
    refine C.aload_n dX8_feed_42 rfl ?_
    refine C.getf gf_X8_10 dX8_feed_43 (hL _ (by decide)) rfl rfl ?_
    refine C.iload dX8_feed_46 rfl ?_
    refine C.kcall (M3) cw_X4_addNumber ml_X8_53 im_X4_addNumber sl_X4_addNumber dX8_feed_48 (hL _ (by decide)) rfl rfl rfl (by omega) (Nat.le_refl _) (Nat.le_refl _) (Nat.le_of_ble_eq_true rfl) rfl (fun r48 c48 a48 hR48 => ?_)
    obtain ⟨rfl, hs, ha⟩ := hR48
    rw [hs, ha]
    clear hs ha
    refine C.aload_n dX8_feed_51 rfl ?_
    refine C.getf gf_X8_10 dX8_feed_52 (hL _ (by decide)) rfl rfl ?_
    refine C.iload dX8_feed_55 rfl ?_
    refine C.kcall (M4) cw_X4_addNumber ml_X8_53 im_X4_addNumber sl_X4_addNumber dX8_feed_57 (hL _ (by decide)) rfl rfl rfl (by omega) (Nat.le_refl _) (Nat.le_refl _) (Nat.le_of_ble_eq_true rfl) rfl (fun r57 c57 a57 hR57 => ?_)
    obtain ⟨rfl, hs, ha⟩ := hR57
    rw [hs, ha]
    clear hs ha
    refine C.aload_n dX8_feed_60 rfl ?_
    refine C.getf gf_X8_10 dX8_feed_61 (hL _ (by decide)) rfl rfl ?_
    refine C.getf gf_X8_50 dX8_feed_64 (hL _ (by decide)) rfl rfl ?_
    refine C.retI rfl (by first | rfl | (exact (iI_bool (by first | exact Or.inl rfl | exact Or.inr rfl | assumption)).1)) dX8_feed_67 (Nat.le_refl _) (Nat.le_refl _) ⟨_, _, ?_, rfl, rfl⟩
    rw [if_pos hr, if_pos hr, if_pos hr]
    exact ⟨rfl, rfl, rfl⟩
  · refine C.aload_n dX8_feed_0 rfl ?_
    refine C.getf gf_X8_10 dX8_feed_1 (hL _ (by decide)) rfl rfl ?_
    refine C.getf gf_X8_50 dX8_feed_4 (hL _ (by decide)) rfl rfl ?_
    refine C.topI (b := (n : Int)) hn ?_
    refine C.bi dX8_feed_7 (by decide) ?_
    refine C.iaddI dX8_feed_9 ?_
    refine C.si dX8_feed_10 (by decide) ?_
    refine C.icmp_leI (tgt := 18) dX8_feed_13 (by decide) (by omega) (by omega) (fun hc13 => absurd hc13 (by omega)) (fun hc13 => ?_)
    refine C.ic dX8_feed_16 ?_
    refine C.retI rfl (by first | rfl | (exact (iI_bool (by first | exact Or.inl rfl | exact Or.inr rfl | assumption)).1)) dX8_feed_17 (Nat.le_refl _) (Nat.le_refl _) ⟨_, _, ?_, rfl, rfl⟩
    rw [if_neg hr, if_neg hr, if_neg hr]
    exact ⟨rfl, rfl, rfl⟩
theorem k8_end {g : Nat → AC} {z : Int} (hd : 1 ≤ d) (hL : ∀ k, k < 36 → k ∈ L) (hz : i3 z) (hn : c 11 = n) (h4 : n ≤ 400) : KA yX8_end cX8_end 2 (some .boolean) d [.ref 0, .int (iI z)] L g c a (fun r c' a' => r = some (.int (iI (b2i (decide (0 ≤ z) && decide (z ≤ n))))) ∧ c' = (if 0 ≤ z ∧ z ≤ n then va_up c 11 z else c) ∧ a' = a) := by
  have M := k_cut (d := d - 1) (g := g) (a := a) hL hz hn h4
  refine KA.of (by decide +kernel) rfl (Nat.le_of_ble_eq_true rfl) (fun X C => ?_)
  refine C.aload_n dX8_end_0 rfl ?_
  refine C.getf gf_X8_10 dX8_end_1 (hL _ (by decide)) rfl rfl ?_
  refine C.iload_n dX8_end_4 rfl ?_
  refine C.kcall (M) cw_X4_cut ml_X8_57 im_X4_cut sl_X4_cut dX8_end_5 (hL _ (by decide)) rfl rfl rfl (by omega) (Nat.le_refl _) (Nat.le_refl _) (Nat.le_of_ble_eq_true rfl) rfl (fun r5 c5 a5 hR5 => ?_)
  obtain ⟨rfl, hs, ha⟩ := hR5
  rw [hs, ha]
  clear hs ha
  refine C.retI rfl (iI_bool (b2i_01 _)).1 dX8_end_8 (Nat.le_refl _) (Nat.le_refl _) ⟨_, _, ?_, rfl, rfl⟩
  exact ⟨rfl, rfl, rfl⟩
theorem k8_fault {g : Nat → AC} (hL : ∀ k, k < 36 → k ∈ L) : KA yX8_fault cX8_fault 1 (some .int) d [.ref 0] L g c a (fun r c' a' => r = some (.int (iI (c 5))) ∧ c' = c ∧ a' = a) := by
  refine KA.of (by decide +kernel) rfl (Nat.le_of_ble_eq_true rfl) (fun X C => ?_)
  refine C.aload_n dX8_fault_0 rfl ?_
  refine C.getf gf_X8_40 dX8_fault_1 (hL _ (by decide)) rfl rfl ?_
  refine C.retI rfl (by first | rfl | (exact (iI_bool (by first | exact Or.inl rfl | exact Or.inr rfl | assumption)).1)) dX8_fault_4 (Nat.le_refl _) (Nat.le_refl _) ⟨_, _, ?_, rfl, rfl⟩
  exact ⟨rfl, rfl, rfl⟩
theorem k8_taped {g : Nat → AC} {z : Int} (hd : 1 ≤ d) (hL : ∀ k, k < 36 → k ∈ L) (hz : i3 z) (hn : c 11 = n) (h4 : n ≤ 400) : KA yX8_taped cX8_taped 2 (some .int) d [.ref 0, .int (iI z)] L g c a (fun r c' a' => r = some (.int (iI (tpV (a 2) n z))) ∧ c' = c ∧ a' = a) := by
  have M := k_at (d := d - 1) (g := g) (a := a) hL hz hn h4
  refine KA.of (by decide +kernel) rfl (Nat.le_of_ble_eq_true rfl) (fun X C => ?_)
  refine C.aload_n dX8_taped_0 rfl ?_
  refine C.getf gf_X8_10 dX8_taped_1 (hL _ (by decide)) rfl rfl ?_
  refine C.iload_n dX8_taped_4 rfl ?_
  refine C.kcall (M) cw_X4_at ml_X8_147 im_X4_at sl_X4_at dX8_taped_5 (hL _ (by decide)) rfl rfl rfl (by omega) (Nat.le_refl _) (Nat.le_refl _) (Nat.le_of_ble_eq_true rfl) rfl (fun r5 c5 a5 hR5 => ?_)
  obtain ⟨rfl, hs, ha⟩ := hR5
  rw [hs, ha]
  clear hs ha
  refine C.retI rfl (by first | rfl | (exact (iI_bool (by first | exact Or.inl rfl | exact Or.inr rfl | assumption)).1)) dX8_taped_8 (Nat.le_refl _) (Nat.le_refl _) ⟨_, _, ?_, rfl, rfl⟩
  exact ⟨rfl, rfl, rfl⟩
def ctK (c : SF) (no nn : Nat) (z : Int) : Int := if z = 0 then no else if z = 1 then nn else if z = 2 then c 11 else if z = 3 then c 6 else if z = 4 then c 7 else -1
theorem p_count {z : Int} (hd : 2 ≤ d) (hz : i3 z) (h : KI L f c a e4 e13 e15 po pn) : AM yX8_count cX8_count 2 (some .int) d 0 0 [.ref 0, .int (iI z)] L f (SP (some (.int (iI (ctK c po.length pn.length z)))) L f) := by
  obtain ⟨h0L, h0f⟩ := h.o0
  have M1 := t_size (d := d - 1) (by omega) h.2.1.2.1
  have M2 := t_size (d := d - 1) (by omega) h.2.1.2.2
  obtain ⟨-, hnL, hnf⟩ := h.2.1.2.2.1
  obtain ⟨-, hoL, hof⟩ := h.2.1.2.1.1
  have h1L := h.1.2.1 1 (by omega)
  have h1f : f 1 = .inr (7, ko1 c) := by rw [h.1.1]; rfl
  unfold i3 at hz
  by_cases hr : 0 ≤ z ∧ z ≤ 4
  · rcases (show z = 0 ∨ z = 1 ∨ z = 2 ∨ z = 3 ∨ z = 4 by omega) with rfl | rfl | rfl | rfl | rfl
    · refine AM.of (by decide +kernel) (by simp [Value.category]) (Nat.le_of_ble_eq_true rfl) false (fun h => by cases h) (fun X C => ?_)
      refine C.iload_n dX8_count_0 rfl ?_
      refine C.tableIn (tgt := 36) dX8_count_1 (by decide) (by decide) rfl (by decide) ?_
      refine C.aload_n dX8_count_36 rfl ?_
      refine C.getf gf_X8_33 dX8_count_37 h0L h0f rfl ?_
      refine C.callV (M1) cw_X1_size ml_X8_83 im_X1_size sl_X1_size dX8_count_40 hoL hof rfl rfl (by omega) (Nat.le_refl _) (Nat.le_refl _) (Nat.le_of_ble_eq_true rfl) rfl (fun r40 L40 f40 hR40 => ?_)
      obtain ⟨rfl, hL9, hf9⟩ := hR40
      rw [hL9, hf9]
      clear hL9 hf9
      refine C.retI rfl (by first | rfl | (exact (iI_bool (by first | exact Or.inl rfl | exact Or.inr rfl | assumption)).1)) dX8_count_43 (Nat.le_refl _) (Nat.le_refl _) ⟨rfl, rfl, rfl⟩
      skip
    · refine AM.of (by decide +kernel) (by simp [Value.category]) (Nat.le_of_ble_eq_true rfl) false (fun h => by cases h) (fun X C => ?_)
      refine C.iload_n dX8_count_0 rfl ?_
      refine C.tableIn (tgt := 44) dX8_count_1 (by decide) (by decide) rfl (by decide) ?_
      refine C.aload_n dX8_count_44 rfl ?_
      refine C.getf gf_X8_37 dX8_count_45 h0L h0f rfl ?_
      refine C.callV (M2) cw_X1_size ml_X8_83 im_X1_size sl_X1_size dX8_count_48 hnL hnf rfl rfl (by omega) (Nat.le_refl _) (Nat.le_refl _) (Nat.le_of_ble_eq_true rfl) rfl (fun r48 L48 f48 hR48 => ?_)
      obtain ⟨rfl, hL9, hf9⟩ := hR48
      rw [hL9, hf9]
      clear hL9 hf9
      refine C.retI rfl (by first | rfl | (exact (iI_bool (by first | exact Or.inl rfl | exact Or.inr rfl | assumption)).1)) dX8_count_51 (Nat.le_refl _) (Nat.le_refl _) ⟨rfl, rfl, rfl⟩
      skip
    · refine AM.of (by decide +kernel) (by simp [Value.category]) (Nat.le_of_ble_eq_true rfl) false (fun h => by cases h) (fun X C => ?_)
      refine C.iload_n dX8_count_0 rfl ?_
      refine C.tableIn (tgt := 52) dX8_count_1 (by decide) (by decide) rfl (by decide) ?_
      refine C.aload_n dX8_count_52 rfl ?_
      refine C.getf gf_X8_10 dX8_count_53 h0L h0f rfl ?_
      refine C.getf gf_X8_50 dX8_count_56 h1L h1f rfl ?_
      refine C.retI rfl (by first | rfl | (exact (iI_bool (by first | exact Or.inl rfl | exact Or.inr rfl | assumption)).1)) dX8_count_59 (Nat.le_refl _) (Nat.le_refl _) ⟨rfl, rfl, rfl⟩
      skip
    · refine AM.of (by decide +kernel) (by simp [Value.category]) (Nat.le_of_ble_eq_true rfl) false (fun h => by cases h) (fun X C => ?_)
      refine C.iload_n dX8_count_0 rfl ?_
      refine C.tableIn (tgt := 60) dX8_count_1 (by decide) (by decide) rfl (by decide) ?_
      refine C.aload_n dX8_count_60 rfl ?_
      refine C.getf gf_X8_44 dX8_count_61 h0L h0f rfl ?_
      refine C.retI rfl (by first | rfl | (exact (iI_bool (by first | exact Or.inl rfl | exact Or.inr rfl | assumption)).1)) dX8_count_64 (Nat.le_refl _) (Nat.le_refl _) ⟨rfl, rfl, rfl⟩
      skip
    · refine AM.of (by decide +kernel) (by simp [Value.category]) (Nat.le_of_ble_eq_true rfl) false (fun h => by cases h) (fun X C => ?_)
      refine C.iload_n dX8_count_0 rfl ?_
      refine C.tableIn (tgt := 65) dX8_count_1 (by decide) (by decide) rfl (by decide) ?_
      refine C.aload_n dX8_count_65 rfl ?_
      refine C.getf gf_X8_47 dX8_count_66 h0L h0f rfl ?_
      refine C.retI rfl (by first | rfl | (exact (iI_bool (by first | exact Or.inl rfl | exact Or.inr rfl | assumption)).1)) dX8_count_69 (Nat.le_refl _) (Nat.le_refl _) ⟨rfl, rfl, rfl⟩
      skip
  · have hv : ctK c po.length pn.length z = -1 := by unfold ctK; rw [if_neg (by omega), if_neg (by omega), if_neg (by omega), if_neg (by omega), if_neg (by omega)]
    rw [hv]
    refine AM.of (by decide +kernel) (by simp [Value.category]) (Nat.le_of_ble_eq_true rfl) false (fun h => by cases h) (fun X C => ?_)
    refine C.iload_n dX8_count_0 rfl ?_
    refine C.tableOut (tgt := 70) dX8_count_1 (by rw [iI_toInt (by omega)]; omega) (by decide) ?_
    refine C.ic dX8_count_70 ?_
    refine C.retI rfl (by first | rfl | (exact (iI_bool (by first | exact Or.inl rfl | exact Or.inr rfl | assumption)).1)) dX8_count_71 (Nat.le_refl _) (Nat.le_refl _) ⟨rfl, rfl, rfl⟩
    skip
theorem p_write (hd : 85 ≤ d) (h : KI L f c a e4 e13 e15 po pn) (h6 : 0 < c 6 ∧ c 6 < 100000) (hn : pn.length ≤ 24) (hl : (ltT (pn.map (fun p => p.2))).length ≤ 9000) : AM yX8_write cX8_write 1 (some .int) d 0 0 [.ref 0] L f (fun r L' f' => ∃ c' a', KI L' f' c' a' e4 e13 e15 po pn ∧ FM L f L' f' ∧ (∀ j, j < 100 → j ≠ 11 → c' j = c j) ∧ (if (ltT (pn.map (fun p => p.2))).length ≤ 400 then r = some (.int (iI (ltT (pn.map (fun p => p.2))).length)) ∧ c' 11 = (ltT (pn.map (fun p => p.2))).length ∧ (∀ i v, (ltT (pn.map (fun p => p.2)))[i]? = some v → a' 2 i = v) ∧ (∀ i, (ltT (pn.map (fun p => p.2))).length ≤ i → a' 2 i = a 2 i) else r = some (.int (iI (-1))) ∧ c' 11 = c 11 ∧ a' 2 = a 2)) := by
  obtain ⟨h0L, h0f⟩ := h.o0
  have hL := h.1.2.1
  have M1 := p_needLetter (d := d - 1) h h6
  have M2 := (w_letter (d := d - 1) (Or.inr rfl) (by omega) hL h.1.1 h.2.1.2.2 hn (by omega)).at h.1.1
  have h11L := hL 11 (by omega)
  have h11f : f 11 = .inr (9, ko11 c) := by rw [h.1.1]; rfl
  have hB : isB (ltT (pn.map (fun p => p.2))) := ltT_B (fun x hx => by
    obtain ⟨q, hq, rfl⟩ := List.mem_map.mp hx
    have := (h.2.1.2.2.2.2 q hq).a29
    exact ⟨this.2, this.1.tOk.1, this.1.tOk.2⟩)
  generalize hTT : ltT (pn.map (fun p => p.2)) = T at *
  refine AM.of (by decide +kernel) (by simp [Value.category]) (Nat.le_of_ble_eq_true rfl) false (fun h => by cases h) (fun X C => ?_)
  refine C.aload_n dX8_write_0 rfl ?_
  refine C.callV (M1) cw_X8_needLetter ml_X8_104 im_X8_needLetter sl_X8_needLetter dX8_write_1 h0L h0f rfl rfl (by omega) (Nat.le_refl _) (Nat.le_refl _) (Nat.le_of_ble_eq_true rfl) rfl (fun r1 L1 f1 hR1 => ?_)
  obtain ⟨rfl, hL9, hf9⟩ := hR1
  rw [hL9, hf9]
  clear hL9 hf9
  refine C.aload_n dX8_write_4 rfl ?_
  refine C.getf gf_X8_26 dX8_write_5 h0L h0f rfl ?_
  refine C.aload_n dX8_write_8 rfl ?_
  refine C.getf gf_X8_37 dX8_write_9 h0L h0f rfl ?_
  refine C.callV (M2) cw_X7_writeLetter ml_X8_136 im_X7_writeLetter sl_X7_writeLetter dX8_write_12 h11L h11f rfl rfl (by omega) (Nat.le_refl _) (Nat.le_refl _) (Nat.le_of_ble_eq_true rfl) rfl (fun r12 L12 f12 hR12 => ?_)
  obtain ⟨c1, a1, ⟨rfl, hW, h112, hG⟩, rfl, hf9⟩ := hR12
  rw [hf9]
  skip
  have hGk : Gk c c1 a a1 := ⟨fun j _ _ _ _ x y => hG.1 j x y, fun b _ y => hG.2 b y⟩
  have h11 := hW.1
  have hj1 : ∀ j, j < 100 → c1 j = c j := fun j hj => hG.1 j (by omega) (by omega)
  by_cases hr : T.length ≤ 400
  · have M3 := k_become (d := d - 1) (g := f) (n := T.length) (c := c1) (a := a1) (by omega) hL hr (fun i hi => by
      rw [hW.2.1 i _ (List.getElem?_eq_getElem hi) (by omega)]
      exact hB _ (List.getElem_mem hi))
    have hGk2 : Gk c (va_up c1 11 (T.length : Int)) a (va_up a1 2 (cpy (a1 12) (a1 2) 0 0 T.length)) := ⟨fun j u v w x y z => by rw [va_up_ne _ _ x]; exact hGk.1 j u v w x y z, fun b x y => by rw [va_up_ne _ _ x]; exact hGk.2 b x y⟩
    obtain ⟨hK2, hM2⟩ := h.gk hGk2
    refine C.aload_n dX8_write_15 rfl ?_
    refine C.getf gf_X8_26 dX8_write_16 (hL _ (by decide)) rfl rfl ?_
    refine C.getf gf_X8_139 dX8_write_19 (hL _ (by decide)) rfl rfl ?_
    refine C.topI (b := (T.length : Int)) h11 ?_
    refine C.si dX8_write_22 (by decide) ?_
    refine C.icmp_leI (tgt := 30) dX8_write_25 (by decide) (by omega) (by omega) (fun hc25 => ?_) (fun hc25 => absurd hc25 (by omega))
    refine C.aload_n dX8_write_30 rfl ?_
    refine C.getf gf_X8_10 dX8_write_31 (hL _ (by decide)) rfl rfl ?_
    refine C.aload_n dX8_write_34 rfl ?_
    refine C.getf gf_X8_26 dX8_write_35 (hL _ (by decide)) rfl rfl ?_
    refine C.getf gf_X8_140 dX8_write_38 (hL _ (by decide)) rfl rfl ?_
    refine C.aload_n dX8_write_41 rfl ?_
    refine C.getf gf_X8_26 dX8_write_42 (hL _ (by decide)) rfl rfl ?_
    refine C.getf gf_X8_139 dX8_write_45 (hL _ (by decide)) rfl rfl ?_
    refine C.topI (b := (T.length : Int)) h11 ?_
    refine C.kcall (M3) cw_X4_become ml_X8_144 im_X4_become sl_X4_become dX8_write_48 (hL _ (by decide)) rfl rfl rfl (by omega) (Nat.le_refl _) (Nat.le_refl _) (Nat.le_of_ble_eq_true rfl) rfl (fun r48 c48 a48 hR48 => ?_)
    obtain ⟨rfl, hs, ha⟩ := hR48
    rw [hs, ha]
    clear hs ha
    refine C.aload_n dX8_write_51 rfl ?_
    refine C.getf gf_X8_10 dX8_write_52 (hL _ (by decide)) rfl rfl ?_
    refine C.getf gf_X8_50 dX8_write_55 (hL _ (by decide)) rfl rfl ?_
    refine C.retI rfl (by first | rfl | (exact (iI_bool (by first | exact Or.inl rfl | exact Or.inr rfl | assumption)).1)) dX8_write_58 (Nat.le_refl _) (Nat.le_refl _) ⟨_, _, hK2, hM2, fun j x y => (va_up_ne _ _ y).trans (hj1 j x), ?_⟩
    rw [if_pos hr]
    refine ⟨rfl, rfl, fun i v hv => ?_, fun i hi => ?_⟩
    · have hil := (List.getElem?_eq_some_iff.mp hv).1
      show va_cpy (a1 12) (a1 2) 0 0 T.length i = v
      unfold va_cpy
      rw [if_pos (by omega), Nat.zero_add, Nat.sub_zero]
      exact hW.2.1 i v hv (by omega)
    · show va_cpy (a1 12) (a1 2) 0 0 T.length i = a 2 i
      unfold va_cpy
      rw [if_neg (by omega), hG.2 2 (by decide)]
  · obtain ⟨hK2, hM2⟩ := h.gk hGk
    refine C.aload_n dX8_write_15 rfl ?_
    refine C.getf gf_X8_26 dX8_write_16 (hL _ (by decide)) rfl rfl ?_
    refine C.getf gf_X8_139 dX8_write_19 (hL _ (by decide)) rfl rfl ?_
    refine C.topI (b := (T.length : Int)) h11 ?_
    refine C.si dX8_write_22 (by decide) ?_
    refine C.icmp_leI (tgt := 30) dX8_write_25 (by decide) (by omega) (by omega) (fun hc25 => absurd hc25 (by omega)) (fun hc25 => ?_)
    refine C.ic dX8_write_28 ?_
    refine C.retI rfl (by first | rfl | (exact (iI_bool (by first | exact Or.inl rfl | exact Or.inr rfl | assumption)).1)) dX8_write_29 (Nat.le_refl _) (Nat.le_refl _) ⟨_, _, hK2, hM2, fun j x _ => hj1 j x, ?_⟩
    rw [if_neg hr]
    exact ⟨rfl, hj1 11 (by omega), hG.2 2 (by decide)⟩
end PW2
