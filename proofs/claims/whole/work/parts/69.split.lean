section SPLIT2
variable {d e : Nat} {L : List Nat} {g : Nat → AC} {c : SF} {a : SA}
set_option maxRecDepth 20000 in
theorem k_stands {p w j : Nat} {zs : List Int} (hd : 4 ≤ d) (hL : ∀ k, k < 36 → k ∈ L) (he : c 11 = e) (h4 : e ≤ 400) (hb : TK a) (hp : p < w) (hw : w ≤ e) (ht : TX j zs) : KA yX6_stands cX6_stands 5 (some .boolean) d [.ref (1000 + j), .ref 1, .int (iI p), .int (iI w)] L g c a (fun r c' a' => r = some (.int (iI (b2i (isW (a 2) p w zs)))) ∧ c' = c ∧ a' = a) := by
  obtain ⟨⟨q, hj, hq⟩, hzr, hzl⟩ := ht
  have hql : q.2.2.2.length = zs.length := by rw [hq, List.length_map]
  refine KA.of (by decide +kernel) rfl (Nat.le_of_ble_eq_true rfl) (fun X C => ?_)
  by_cases hlen : w = p + zs.length
  · have loop : ∀ (m k : Nat), k + m = zs.length → (∀ i, i < k → a 2 (p + i) = zs.getD i 0) → X 0 0 L (kv c a g) 15 [some (.ref (1000 + j)), some (.ref 1), some (.int (iI p)), some (.int (iI w)), some (.int (iI k))] [] := by
      intro m
      induction m with
      | zero =>
        intro k hk hs
        have hr : isW (a 2) p w zs = true := by
          unfold isW eqB
          rw [decide_eq_true hlen, Bool.true_and, List.all_eq_true]
          intro i hi
          rw [List.mem_range] at hi
          rw [beq_iff_eq]
          exact hs i (by omega)
        refine C.iload dX6_stands_15 rfl ?_
        refine C.aload_n dX6_stands_17 rfl ?_
        refine C.callT (j_length (d := d - 1) (by omega) hj) cw_J0_length_8abf5 ml_X6_79 im_J0_length_8abf5 sl_J0_length_8abf5 dX6_stands_18 hj rfl rfl (by omega) (Nat.le_refl _) (Nat.le_refl _) (Nat.le_of_ble_eq_true rfl) rfl (fun r L9 f9 h9 => ?_)
        obtain ⟨rfl, hL9, hf9⟩ := h9
        rw [hL9, hf9]
        clear hL9 hf9
        refine C.icmp_geI (tgt := 49) dX6_stands_21 (by decide) (by omega) (by omega) (fun hc21 => ?_) (fun hc21 => absurd hc21 (by omega))
        refine C.ic dX6_stands_49 ?_
        refine C.retI rfl (by first | rfl | (exact (iI_bool (by first | exact Or.inl rfl | exact Or.inr rfl | assumption)).1)) dX6_stands_50 (Nat.le_refl _) (Nat.le_refl _) ⟨_, _, ?_, rfl, rfl⟩
        rw [hr]
        exact ⟨rfl, rfl, rfl⟩
      | succ m ih =>
        intro k hk hs
        have hz := hzr (zs.getD k 0) (getD_mem (by omega))
        have hzz : q.2.2.2.getD k 0 = iI (zs.getD k 0) := by rw [hq]; exact getD_iI (by omega)
        have hbk := hb (p + k)
        have hA := k_at (d := d - 1) (g := g) (c := c) (a := a) (z := ((p + k : Nat) : Int)) hL ⟨by omega, by omega⟩ he h4
        rw [tpV_mod (by omega) hbk] at hA
        by_cases heq : a 2 (p + k) = zs.getD k 0
        · have nx := ih (k + 1) (by omega) (fun i hi => by
            by_cases hik : i = k
            · subst hik; exact heq
            · exact hs i (by omega))
          refine C.iload dX6_stands_15 rfl ?_
          refine C.aload_n dX6_stands_17 rfl ?_
          refine C.callT (j_length (d := d - 1) (by omega) hj) cw_J0_length_8abf5 ml_X6_79 im_J0_length_8abf5 sl_J0_length_8abf5 dX6_stands_18 hj rfl rfl (by omega) (Nat.le_refl _) (Nat.le_refl _) (Nat.le_of_ble_eq_true rfl) rfl (fun r L9 f9 h9 => ?_)
          obtain ⟨rfl, hL9, hf9⟩ := h9
          rw [hL9, hf9]
          clear hL9 hf9
          refine C.icmp_geI (tgt := 49) dX6_stands_21 (by decide) (by omega) (by omega) (fun hc21 => absurd hc21 (by omega)) (fun hc21 => ?_)
          refine C.aload_n dX6_stands_24 rfl ?_
          refine C.iload dX6_stands_25 rfl ?_
          refine C.callT (j_charAt (d := d - 1) (by omega) hj (by omega) (by omega) hzz hz) cw_J0_charAt_5068e ml_X6_84 im_J0_charAt_5068e sl_J0_charAt_5068e dX6_stands_27 hj rfl rfl (by omega) (Nat.le_refl _) (Nat.le_refl _) (Nat.le_of_ble_eq_true rfl) rfl (fun r L9 f9 h9 => ?_)
          obtain ⟨rfl, hL9, hf9⟩ := h9
          rw [hL9, hf9]
          clear hL9 hf9
          refine C.aload_n dX6_stands_30 rfl ?_
          refine C.iload_n dX6_stands_31 rfl ?_
          refine C.iload dX6_stands_32 rfl ?_
          refine C.iaddI dX6_stands_34 ?_
          refine C.topI (b := ((p + k : Nat) : Int)) (by omega) ?_
          refine C.kcall (hA) cw_X4_at ml_X6_40 im_X4_at sl_X4_at dX6_stands_35 (hL _ (by decide)) rfl rfl rfl (by omega) (Nat.le_refl _) (Nat.le_refl _) (Nat.le_of_ble_eq_true rfl) rfl (fun r35 c35 a35 hR35 => ?_)
          obtain ⟨rfl, hs, ha⟩ := hR35
          rw [hs, ha]
          clear hs ha
          refine C.icmp_eqI (tgt := 43) dX6_stands_38 (by decide) (by omega) (by omega) (fun hc38 => ?_) (fun hc38 => absurd hc38 (by omega))
          refine C.iincI dX6_stands_43 rfl (by decide) rfl ?_
          refine C.goto (tgt := 15) dX6_stands_46 (by decide) ?_
          exact nx
        · have hr : isW (a 2) p w zs = false := by
            cases h : isW (a 2) p w zs with
            | false => rfl
            | true =>
              unfold isW eqB at h
              simp only [Bool.and_eq_true, List.all_eq_true, List.mem_range, beq_iff_eq] at h
              exact absurd (h.2 k (by omega)) heq
          refine C.iload dX6_stands_15 rfl ?_
          refine C.aload_n dX6_stands_17 rfl ?_
          refine C.callT (j_length (d := d - 1) (by omega) hj) cw_J0_length_8abf5 ml_X6_79 im_J0_length_8abf5 sl_J0_length_8abf5 dX6_stands_18 hj rfl rfl (by omega) (Nat.le_refl _) (Nat.le_refl _) (Nat.le_of_ble_eq_true rfl) rfl (fun r L9 f9 h9 => ?_)
          obtain ⟨rfl, hL9, hf9⟩ := h9
          rw [hL9, hf9]
          clear hL9 hf9
          refine C.icmp_geI (tgt := 49) dX6_stands_21 (by decide) (by omega) (by omega) (fun hc21 => absurd hc21 (by omega)) (fun hc21 => ?_)
          refine C.aload_n dX6_stands_24 rfl ?_
          refine C.iload dX6_stands_25 rfl ?_
          refine C.callT (j_charAt (d := d - 1) (by omega) hj (by omega) (by omega) hzz hz) cw_J0_charAt_5068e ml_X6_84 im_J0_charAt_5068e sl_J0_charAt_5068e dX6_stands_27 hj rfl rfl (by omega) (Nat.le_refl _) (Nat.le_refl _) (Nat.le_of_ble_eq_true rfl) rfl (fun r L9 f9 h9 => ?_)
          obtain ⟨rfl, hL9, hf9⟩ := h9
          rw [hL9, hf9]
          clear hL9 hf9
          refine C.aload_n dX6_stands_30 rfl ?_
          refine C.iload_n dX6_stands_31 rfl ?_
          refine C.iload dX6_stands_32 rfl ?_
          refine C.iaddI dX6_stands_34 ?_
          refine C.topI (b := ((p + k : Nat) : Int)) (by omega) ?_
          refine C.kcall (hA) cw_X4_at ml_X6_40 im_X4_at sl_X4_at dX6_stands_35 (hL _ (by decide)) rfl rfl rfl (by omega) (Nat.le_refl _) (Nat.le_refl _) (Nat.le_of_ble_eq_true rfl) rfl (fun r35 c35 a35 hR35 => ?_)
          obtain ⟨rfl, hs, ha⟩ := hR35
          rw [hs, ha]
          clear hs ha
          refine C.icmp_eqI (tgt := 43) dX6_stands_38 (by decide) (by omega) (by omega) (fun hc38 => absurd hc38 (by omega)) (fun hc38 => ?_)
          refine C.ic dX6_stands_41 ?_
          refine C.retI rfl (by first | rfl | (exact (iI_bool (by first | exact Or.inl rfl | exact Or.inr rfl | assumption)).1)) dX6_stands_42 (Nat.le_refl _) (Nat.le_refl _) ⟨_, _, ?_, rfl, rfl⟩
          rw [hr]
          exact ⟨rfl, rfl, rfl⟩
    have := loop zs.length 0 (by omega) (fun i h => absurd h (by omega))
    refine C.aload_n dX6_stands_0 rfl ?_
    refine C.callT (j_length (d := d - 1) (by omega) hj) cw_J0_length_8abf5 ml_X6_79 im_J0_length_8abf5 sl_J0_length_8abf5 dX6_stands_1 hj rfl rfl (by omega) (Nat.le_refl _) (Nat.le_refl _) (Nat.le_of_ble_eq_true rfl) rfl (fun r L9 f9 h9 => ?_)
    obtain ⟨rfl, hL9, hf9⟩ := h9
    rw [hL9, hf9]
    clear hL9 hf9
    refine C.iload_n dX6_stands_4 rfl ?_
    refine C.iload_n dX6_stands_5 rfl ?_
    refine C.isubI dX6_stands_6 ?_
    refine C.icmp_eqI (tgt := 12) dX6_stands_7 (by decide) (by omega) (by omega) (fun hc7 => ?_) (fun hc7 => absurd hc7 (by omega))
    refine C.ic dX6_stands_12 ?_
    refine C.istore dX6_stands_13 (by decide) rfl ?_
    exact this
  · have hr : isW (a 2) p w zs = false := by unfold isW; rw [decide_eq_false hlen]; rfl
    refine C.aload_n dX6_stands_0 rfl ?_
    refine C.callT (j_length (d := d - 1) (by omega) hj) cw_J0_length_8abf5 ml_X6_79 im_J0_length_8abf5 sl_J0_length_8abf5 dX6_stands_1 hj rfl rfl (by omega) (Nat.le_refl _) (Nat.le_refl _) (Nat.le_of_ble_eq_true rfl) rfl (fun r L9 f9 h9 => ?_)
    obtain ⟨rfl, hL9, hf9⟩ := h9
    rw [hL9, hf9]
    clear hL9 hf9
    refine C.iload_n dX6_stands_4 rfl ?_
    refine C.iload_n dX6_stands_5 rfl ?_
    refine C.isubI dX6_stands_6 ?_
    refine C.icmp_eqI (tgt := 12) dX6_stands_7 (by decide) (by omega) (by omega) (fun hc7 => absurd hc7 (by omega)) (fun hc7 => ?_)
    refine C.ic dX6_stands_10 ?_
    refine C.retI rfl (by first | rfl | (exact (iI_bool (by first | exact Or.inl rfl | exact Or.inr rfl | assumption)).1)) dX6_stands_11 (Nat.le_refl _) (Nat.le_refl _) ⟨_, _, ?_, rfl, rfl⟩
    rw [hr]
    exact ⟨rfl, rfl, rfl⟩
/-- the number of the word at b, 23 for none -/
def wkF (tb : Nat → Int) (b w : Nat) : Nat → Nat → Int
  | 0, _ => 23
  | n + 1, k => if isW tb b w (zW.getD k []) then (k : Int) else wkF tb b w n (k + 1)
def wdK (tb : Nat → Int) (b w : Nat) : Int := wkF tb b w 16 0
set_option maxRecDepth 20000 in
theorem k_wordIn {p w : Nat} (hd : 5 ≤ d) (hL : ∀ k, k < 36 → k ∈ L) (he : c 11 = e) (h4 : e ≤ 400) (hb : TK a) (hp : p < w) (hw : w ≤ e) : KA yX6_wordIn cX6_wordIn 4 (some .int) d [.ref 1, .int (iI p), .int (iI w)] L g c a (fun r c' a' => r = some (.int (iI (wdK (a 2) p w))) ∧ c' = c ∧ a' = a) := by
  refine KA.of (by decide +kernel) rfl (Nat.le_of_ble_eq_true rfl) (fun X C => ?_)
  have loop : ∀ (m k : Nat), k + m = 16 → wkF (a 2) p w m k = wdK (a 2) p w → X 0 0 L (kv c a g) 2 [some (.ref 1), some (.int (iI p)), some (.int (iI w)), some (.int (iI k))] [] := by
    intro m
    induction m with
    | zero =>
      intro k hk hs
      refine C.iload_n dX6_wordIn_2 rfl ?_
      refine C.bi dX6_wordIn_3 (by decide) ?_
      refine C.icmp_geI (tgt := 29) dX6_wordIn_5 (by decide) (by omega) (by omega) (fun hc5 => ?_) (fun hc5 => absurd hc5 (by omega))
      refine C.bi dX6_wordIn_29 (by decide) ?_
      refine C.retI rfl (by first | rfl | (exact (iI_bool (by first | exact Or.inl rfl | exact Or.inr rfl | assumption)).1)) dX6_wordIn_31 (Nat.le_refl _) (Nat.le_refl _) ⟨_, _, ?_, rfl, rfl⟩
      rw [← hs]
      exact ⟨rfl, rfl, rfl⟩
    | succ m ih =>
      intro k hk hs
      have hM := k_stands (d := d - 1) (g := g) (c := c) (p := p) (w := w) (by omega) hL he h4 hb hp hw (tW (w := k) (by omega))
      unfold wkF at hs
      cases hq : isW (a 2) p w (zW.getD k []) with
      | true =>
        rw [hq] at hM hs
        refine C.iload_n dX6_wordIn_2 rfl ?_
        refine C.bi dX6_wordIn_3 (by decide) ?_
        refine C.icmp_geI (tgt := 29) dX6_wordIn_5 (by decide) (by omega) (by omega) (fun hc5 => absurd hc5 (by omega)) (fun hc5 => ?_)
        refine C.iload_n dX6_wordIn_8 rfl ?_
        refine C.callS (s_text (d := d - 1) (w := k) (by omega)) cw_X5_text ml_X6_71 sm_X5_text dX6_wordIn_9 rfl (by omega) (Nat.le_refl _) (Nat.le_refl _) (Nat.le_of_ble_eq_true rfl) rfl (fun r L9 f9 h9 => ?_)
        obtain ⟨rfl, hL9, hf9⟩ := h9
        rw [hL9, hf9]
        clear hL9 hf9
        refine C.aload_n dX6_wordIn_12 rfl ?_
        refine C.iload_n dX6_wordIn_13 rfl ?_
        refine C.iload_n dX6_wordIn_14 rfl ?_
        refine C.kcallS (hM) cw_X6_stands ml_X6_75 sm_X6_stands dX6_wordIn_15 rfl (by omega) (Nat.le_refl _) (Nat.le_refl _) (Nat.le_of_ble_eq_true rfl) rfl (fun r15 c15 a15 hR15 => ?_)
        obtain ⟨rfl, hs, ha⟩ := hR15
        rw [hs, ha]
        clear hs ha
        refine C.if_eqI (tgt := 23) dX6_wordIn_18 (by decide) (by decide) (fun hc18 => absurd hc18 (by decide)) (fun hc18 => ?_)
        refine C.iload_n dX6_wordIn_21 rfl ?_
        refine C.retI rfl (by first | rfl | (exact (iI_bool (by first | exact Or.inl rfl | exact Or.inr rfl | assumption)).1)) dX6_wordIn_22 (Nat.le_refl _) (Nat.le_refl _) ⟨_, _, ?_, rfl, rfl⟩
        rw [← hs]
        exact ⟨rfl, rfl, rfl⟩
      | false =>
        rw [hq] at hM hs
        have nx := ih (k + 1) (by omega) hs
        refine C.iload_n dX6_wordIn_2 rfl ?_
        refine C.bi dX6_wordIn_3 (by decide) ?_
        refine C.icmp_geI (tgt := 29) dX6_wordIn_5 (by decide) (by omega) (by omega) (fun hc5 => absurd hc5 (by omega)) (fun hc5 => ?_)
        refine C.iload_n dX6_wordIn_8 rfl ?_
        refine C.callS (s_text (d := d - 1) (w := k) (by omega)) cw_X5_text ml_X6_71 sm_X5_text dX6_wordIn_9 rfl (by omega) (Nat.le_refl _) (Nat.le_refl _) (Nat.le_of_ble_eq_true rfl) rfl (fun r L9 f9 h9 => ?_)
        obtain ⟨rfl, hL9, hf9⟩ := h9
        rw [hL9, hf9]
        clear hL9 hf9
        refine C.aload_n dX6_wordIn_12 rfl ?_
        refine C.iload_n dX6_wordIn_13 rfl ?_
        refine C.iload_n dX6_wordIn_14 rfl ?_
        refine C.kcallS (hM) cw_X6_stands ml_X6_75 sm_X6_stands dX6_wordIn_15 rfl (by omega) (Nat.le_refl _) (Nat.le_refl _) (Nat.le_of_ble_eq_true rfl) rfl (fun r15 c15 a15 hR15 => ?_)
        obtain ⟨rfl, hs, ha⟩ := hR15
        rw [hs, ha]
        clear hs ha
        refine C.if_eqI (tgt := 23) dX6_wordIn_18 (by decide) (by decide) (fun hc18 => ?_) (fun hc18 => absurd hc18 (by decide))
        refine C.iincI dX6_wordIn_23 rfl (by decide) rfl ?_
        refine C.goto (tgt := 2) dX6_wordIn_26 (by decide) ?_
        exact nx
  have := loop 16 0 rfl rfl
  refine C.ic dX6_wordIn_0 ?_
  refine C.istore_n dX6_wordIn_1 (by decide) rfl ?_
  exact this
def adT (a : SA) (m : Nat) (t : Int × Int × Int) : SA := va_up (va_up (va_up a 7 (va_up (a 7) m t.1)) 8 (va_up (a 8) m t.2.1)) 9 (va_up (a 9) m t.2.2)
theorem k_addT {m : Nat} {t : Int × Int × Int} (hL : ∀ k, k < 36 → k ∈ L) (hm : c 63 = m) (h4 : m < 400) : KA yX6_add cX6_add 4 none d [.ref 6, .int (iI t.1), .int (iI t.2.1), .int (iI t.2.2)] L g c a (fun r c' a' => r = none ∧ c' = va_up c 63 ((m : Int) + 1) ∧ a' = adT a m t) := by
  refine KA.of (by decide +kernel) rfl (Nat.le_of_ble_eq_true rfl) (fun X C => ?_)
  refine C.aload_n dX6_add_0 rfl ?_
  refine C.getf gf_X6_23 dX6_add_1 (hL _ (by decide)) rfl rfl ?_
  refine C.topI (b := (m : Int)) hm ?_
  refine C.aload_n dX6_add_4 rfl ?_
  refine C.getf gf_X6_11 dX6_add_5 (hL _ (by decide)) rfl rfl ?_
  refine C.alenI dX6_add_8 (hL _ (by decide)) rfl (by decide) ?_
  refine C.icmp_geI (tgt := 52) dX6_add_9 (by decide) (by omega) (by omega) (fun hc9 => absurd hc9 (by omega)) (fun hc9 => ?_)
  refine C.aload_n dX6_add_12 rfl ?_
  refine C.getf gf_X6_11 dX6_add_13 (hL _ (by decide)) rfl rfl ?_
  refine C.aload_n dX6_add_16 rfl ?_
  refine C.getf gf_X6_23 dX6_add_17 (hL _ (by decide)) rfl rfl ?_
  refine C.topI (b := (m : Int)) hm ?_
  refine C.iload_n dX6_add_20 rfl ?_
  refine C.kast_7 hL dX6_add_21 rfl (by omega) ?_
  refine C.aload_n dX6_add_22 rfl ?_
  refine C.getf gf_X6_17 dX6_add_23 (hL _ (by decide)) rfl rfl ?_
  refine C.aload_n dX6_add_26 rfl ?_
  refine C.getf gf_X6_23 dX6_add_27 (hL _ (by decide)) rfl rfl ?_
  refine C.topI (b := (m : Int)) hm ?_
  refine C.iload_n dX6_add_30 rfl ?_
  refine C.kast_8 hL dX6_add_31 rfl (by omega) ?_
  refine C.aload_n dX6_add_32 rfl ?_
  refine C.getf gf_X6_20 dX6_add_33 (hL _ (by decide)) rfl rfl ?_
  refine C.aload_n dX6_add_36 rfl ?_
  refine C.getf gf_X6_23 dX6_add_37 (hL _ (by decide)) rfl rfl ?_
  refine C.topI (b := (m : Int)) hm ?_
  refine C.iload_n dX6_add_40 rfl ?_
  refine C.kast_9 hL dX6_add_41 rfl (by omega) ?_
  refine C.aload_n dX6_add_42 rfl ?_
  refine C.dup dX6_add_43 rfl ?_
  refine C.getf gf_X6_23 dX6_add_44 (hL _ (by decide)) rfl rfl ?_
  refine C.topI (b := (m : Int)) hm ?_
  refine C.ic dX6_add_47 ?_
  refine C.iaddI dX6_add_48 ?_
  refine C.kput_63 hL pf_X6_23 dX6_add_49 ?_
  refine C.vret rfl dX6_add_52 (Nat.le_refl _) (Nat.le_refl _) ⟨_, _, ?_, rfl, rfl⟩
  exact ⟨rfl, rfl, rfl⟩
/-- the things of the text from p on -/
def tkF (tb : Nat → Int) (e : Nat) : Nat → Nat → List (Int × Int × Int)
  | 0, _ => []
  | n + 1, p => if e ≤ p then [] else if inR tb e 97 122 p then (wdK tb p (wend tb e p), (p : Int), -1) :: tkF tb e n (wend tb e p) else if inR tb e 48 57 p then (17, (p : Int), vlK tb p (dend tb e p)) :: tkF tb e n (dend tb e p) else if tb p = 32 then tkF tb e n (p + 1) else (sgK (tb p), (p : Int), -1) :: tkF tb e n (p + 1)
theorem wkF_rng (tb : Nat → Int) (b w : Nat) : ∀ (n k : Nat), k + n = 16 → 0 ≤ wkF tb b w n k ∧ wkF tb b w n k ≤ 23 := by
  intro n
  induction n with
  | zero => intro k hk; simp [wkF]
  | succ n ih =>
    intro k hk
    unfold wkF
    split
    · omega
    · exact ih (k + 1) (by omega)
theorem sgK_rng (z : Int) : 0 ≤ sgK z ∧ sgK z ≤ 23 := by
  unfold sgK
  repeat' split
  all_goals omega
theorem vlK_rng {tb : Nat → Int} {b w : Nat} (h : ∀ i, i < w - b → 48 ≤ tb (b + i) ∧ tb (b + i) ≤ 57) : -1 ≤ vlK tb b w ∧ vlK tb b w ≤ 999 := by
  unfold vlK
  split
  · omega
  · have := nvF_rng (w - b) h
    omega
/-- things laid one behind the other -/
def TsP (c : SF) (a : SA) (ts : List (Int × Int × Int)) : Prop := c 63 = ts.length ∧ (∀ (j : Nat) (t : Int × Int × Int), ts[j]? = some t → a 7 j = t.1 ∧ a 8 j = t.2.1 ∧ a 9 j = t.2.2) ∧ (∀ t ∈ ts, (0 ≤ t.1 ∧ t.1 ≤ 23) ∧ (0 ≤ t.2.1 ∧ t.2.1 ≤ 400) ∧ (-1 ≤ t.2.2 ∧ t.2.2 ≤ 999))
theorem TsP.add {ts : List (Int × Int × Int)} {t : Int × Int × Int} (h : TsP c a ts) (ht : (0 ≤ t.1 ∧ t.1 ≤ 23) ∧ (0 ≤ t.2.1 ∧ t.2.1 ≤ 400) ∧ (-1 ≤ t.2.2 ∧ t.2.2 ≤ 999)) : TsP (va_up c 63 ((ts.length : Int) + 1)) (adT a ts.length t) (ts ++ [t]) := by
  refine ⟨by rw [va_up_self, List.length_append]; rfl, fun j u hu => ?_, fun u hu => ?_⟩
  · have e7 : adT a ts.length t 7 = va_up (a 7) ts.length t.1 := rfl
    have e8 : adT a ts.length t 8 = va_up (a 8) ts.length t.2.1 := rfl
    have e9 : adT a ts.length t 9 = va_up (a 9) ts.length t.2.2 := rfl
    rw [e7, e8, e9]
    by_cases hj : j < ts.length
    · rw [List.getElem?_append_left hj] at hu
      rw [va_up_ne _ _ (by omega), va_up_ne _ _ (by omega), va_up_ne _ _ (by omega)]
      exact h.2.1 j u hu
    · rw [List.getElem?_append_right (by omega)] at hu
      have hj2 : j - ts.length < 1 := (List.getElem?_eq_some_iff.mp hu).1
      obtain rfl : j = ts.length := by omega
      rw [Nat.sub_self] at hu
      obtain rfl : t = u := Option.some.inj hu
      rw [va_up_self, va_up_self, va_up_self]
      exact ⟨rfl, rfl, rfl⟩
  · rcases List.mem_append.mp hu with h1 | h1
    · exact h.2.2 u h1
    · rw [List.mem_singleton.mp h1]; exact ht
/-- but the things, all is as it was -/
def Gt (c c' : SF) : Prop := ∀ j, j ≠ 63 → j ≠ 64 → j ≠ 65 → c' j = c j
def Gta (a a' : SA) : Prop := ∀ b, b ≠ 7 → b ≠ 8 → b ≠ 9 → a' b = a b
theorem Gta.ad {a0 : SA} {m : Nat} {t : Int × Int × Int} (h : Gta a0 a) : Gta a0 (adT a m t) := fun b h7 h8 h9 => by
  unfold adT
  rw [va_up_ne _ _ h9, va_up_ne _ _ h8, va_up_ne _ _ h7]
  exact h b h7 h8 h9
set_option maxRecDepth 20000 in
set_option maxHeartbeats 2000000 in
theorem k_split (hd : 6 ≤ d) (hL : ∀ k, k < 36 → k ∈ L) (he : c 11 = e) (h4 : e ≤ 400) (hb : TK a) : KA yX6_split cX6_split 6 none d [.ref 6, .ref 1] L g c a (fun r c' a' => r = none ∧ TsAt c' a' (tkF (a 2) e 400 0) e 0 ∧ Gt c c' ∧ Gta a a') := by
  refine KA.of (by decide +kernel) rfl (Nat.le_of_ble_eq_true rfl) (fun X C => ?_)
  have loop : ∀ (m i p : Nat) (ts : List (Int × Int × Int)) (cc : SF) (ac : SA), i + m = 400 → i ≤ p → p ≤ e → ts.length ≤ i → TsP cc ac ts → cc 64 = e → cc 65 = 0 → Gt c cc → Gta a ac → ts ++ tkF (a 2) e m p = tkF (a 2) e 400 0 → ∀ v4 v5, X 0 0 L (kv cc ac g) 22 [some (.ref 6), some (.ref 1), some (.int (iI p)), some (.int (iI i)), v4, v5] [] := by
    intro m
    induction m with
    | zero =>
      intro i p ts cc ac hi hip hpe hts hP h64 h65 hg hga htk v4 v5
      refine C.iload_n dX6_split_22 rfl ?_
      refine C.si dX6_split_23 (by decide) ?_
      refine C.icmp_geI (tgt := 139) dX6_split_26 (by decide) (by omega) (by omega) (fun hc26 => ?_) (fun hc26 => absurd hc26 (by omega))
      refine C.vret rfl dX6_split_139 (Nat.le_refl _) (Nat.le_refl _) ⟨_, _, ?_, rfl, rfl⟩
      refine ⟨rfl, ?_, hg, hga⟩
      rw [← htk]
      simp only [tkF, List.append_nil]
      exact ⟨⟨hP.1, by omega⟩, hP.2.1, hP.2.2, ⟨h64, h4⟩, h65, Nat.zero_le _⟩
    | succ m ih =>
      intro i p ts cc ac hi hip hpe hts hP h64 h65 hg hga htk v4 v5
      have h11 : cc 11 = e := by rw [hg 11 (by decide) (by decide) (by decide)]; exact he
      have hA2 : ac 2 = a 2 := hga 2 (by decide) (by decide) (by decide)
      have hb2 : TK ac := fun j => by rw [hA2]; exact hb j
      by_cases hend : e ≤ p
      · have htk0 : tkF (a 2) e (m + 1) p = [] := by unfold tkF; rw [if_pos hend]
        rw [htk0, List.append_nil] at htk
        refine C.iload_n dX6_split_22 rfl ?_
        refine C.si dX6_split_23 (by decide) ?_
        refine C.icmp_geI (tgt := 139) dX6_split_26 (by decide) (by omega) (by omega) (fun hc26 => absurd hc26 (by omega)) (fun hc26 => ?_)
        refine C.iload_n dX6_split_29 rfl ?_
        refine C.aload_n dX6_split_30 rfl ?_
        refine C.getf gf_X6_39 dX6_split_31 (hL _ (by decide)) rfl rfl ?_
        refine C.topI (b := (e : Int)) h11 ?_
        refine C.icmp_geI (tgt := 139) dX6_split_34 (by decide) (by omega) (by omega) (fun hc34 => ?_) (fun hc34 => absurd hc34 (by omega))
        refine C.vret rfl dX6_split_139 (Nat.le_refl _) (Nat.le_refl _) ⟨_, _, ?_, rfl, rfl⟩
        refine ⟨rfl, ?_, hg, hga⟩
        rw [← htk]
        exact ⟨⟨hP.1, by omega⟩, hP.2.1, hP.2.2, ⟨h64, h4⟩, h65, Nat.zero_le _⟩
      · have hbp := hb p
        have hA := k_at (d := d - 1) (g := g) (c := cc) (a := ac) (z := p) hL ⟨by omega, by omega⟩ h11 h4
        rw [tpV_mod (by omega) (hb2 p), hA2] at hA
        unfold tkF at htk
        rw [if_neg hend] at htk
        have hadd := fun t => k_addT (d := d - 1) (g := g) (c := cc) (a := ac) (m := ts.length) (t := t) hL hP.1 (by omega)
        have nx : ∀ (q : Nat) (t : Int × Int × Int), p < q → q ≤ e → ((0 ≤ t.1 ∧ t.1 ≤ 23) ∧ (0 ≤ t.2.1 ∧ t.2.1 ≤ 400) ∧ (-1 ≤ t.2.2 ∧ t.2.2 ≤ 999)) → ts ++ t :: tkF (a 2) e m q = tkF (a 2) e 400 0 → ∀ v4 v5, X 0 0 L (kv (va_up cc 63 ((ts.length : Int) + 1)) (adT ac ts.length t) g) 22 [some (.ref 6), some (.ref 1), some (.int (iI q)), some (.int (iI ((i : Int) + 1))), v4, v5] [] := fun q t h1 h2 ht h3 v4 v5 => ih (i + 1) q (ts ++ [t]) _ _ (by omega) (by omega) h2 (by rw [List.length_append]; show _ + 1 ≤ _; omega) (hP.add ht) h64 h65 (fun j x1 x2 x3 => by rw [va_up_ne _ _ x1]; exact hg j x1 x2 x3) hga.ad (by rw [List.append_assoc]; exact h3) v4 v5
        by_cases hle : inR (a 2) e 97 122 p = true
        · have hle2 := inR_lt hle
          rw [if_pos hle] at htk
          have hwe : wend (a 2) e p = sk (a 2) e 97 122 (p + 1) := sk_go hle
          have hw1 := sk_ge (a 2) e 97 122 (p + 1)
          have hw2 := wend_le (tb := a 2) hpe
          have hE := k_wordEnd (d := d - 1) (g := g) (p := p) (by omega) hL h11 h4 hb2 (by omega)
          rw [hA2, ← hwe] at hE
          have hW := k_wordIn (d := d - 1) (g := g) (c := cc) (a := ac) (p := p) (w := wend (a 2) e p) (by omega) hL h11 h4 hb2 (by omega) hw2
          rw [hA2] at hW
          have hr := wkF_rng (a 2) p (wend (a 2) e p) 16 0 rfl
          refine C.iload_n dX6_split_22 rfl ?_
          refine C.si dX6_split_23 (by decide) ?_
          refine C.icmp_geI (tgt := 139) dX6_split_26 (by decide) (by omega) (by omega) (fun hc26 => absurd hc26 (by omega)) (fun hc26 => ?_)
          refine C.iload_n dX6_split_29 rfl ?_
          refine C.aload_n dX6_split_30 rfl ?_
          refine C.getf gf_X6_39 dX6_split_31 (hL _ (by decide)) rfl rfl ?_
          refine C.topI (b := (e : Int)) h11 ?_
          refine C.icmp_geI (tgt := 139) dX6_split_34 (by decide) (by omega) (by omega) (fun hc34 => absurd hc34 (by omega)) (fun hc34 => ?_)
          refine C.aload_n dX6_split_37 rfl ?_
          refine C.iload_n dX6_split_38 rfl ?_
          refine C.kcall (hA) cw_X4_at ml_X6_40 im_X4_at sl_X4_at dX6_split_39 (hL _ (by decide)) rfl rfl rfl (by omega) (Nat.le_refl _) (Nat.le_refl _) (Nat.le_of_ble_eq_true rfl) rfl (fun r39 c39 a39 hR39 => ?_)
          obtain ⟨rfl, hs, ha⟩ := hR39
          rw [hs, ha]
          clear hs ha
          refine C.istore dX6_split_42 (by decide) rfl ?_
          refine C.iload_n dX6_split_44 rfl ?_
          refine C.ic dX6_split_45 ?_
          refine C.iaddI dX6_split_46 ?_
          refine C.istore dX6_split_47 (by decide) rfl ?_
          refine C.iload dX6_split_49 rfl ?_
          refine C.callS (s_isLetter (d := d - 1) (z := a 2 p % 256) ⟨by omega, by omega⟩) cw_X6_isLetter ml_X6_43 sm_X6_isLetter dX6_split_51 rfl (by omega) (Nat.le_refl _) (Nat.le_refl _) (Nat.le_of_ble_eq_true rfl) rfl (fun r L9 f9 h9 => ?_)
          obtain ⟨rfl, hL9, hf9⟩ := h9
          rw [hL9, hf9]
          clear hL9 hf9
          rw [decide_eq_true (by omega : (97 : Int) ≤ a 2 p % 256), decide_eq_true (by omega : a 2 p % 256 ≤ 122)]
          refine C.if_eqI (tgt := 80) dX6_split_54 (by decide) (by decide) (fun hc54 => absurd hc54 (by decide)) (fun hc54 => ?_)
          refine C.aload_n dX6_split_57 rfl ?_
          refine C.iload_n dX6_split_58 rfl ?_
          refine C.kcallS (hE) cw_X6_wordEnd ml_X6_47 sm_X6_wordEnd dX6_split_59 rfl (by omega) (Nat.le_refl _) (Nat.le_refl _) (Nat.le_of_ble_eq_true rfl) rfl (fun r59 c59 a59 hR59 => ?_)
          obtain ⟨rfl, hs, ha⟩ := hR59
          rw [hs, ha]
          clear hs ha
          refine C.istore dX6_split_62 (by decide) rfl ?_
          refine C.aload_n dX6_split_64 rfl ?_
          refine C.aload_n dX6_split_65 rfl ?_
          refine C.iload_n dX6_split_66 rfl ?_
          refine C.iload dX6_split_67 rfl ?_
          refine C.kcallS (hW) cw_X6_wordIn ml_X6_51 sm_X6_wordIn dX6_split_69 rfl (by omega) (Nat.le_refl _) (Nat.le_refl _) (Nat.le_of_ble_eq_true rfl) rfl (fun r69 c69 a69 hR69 => ?_)
          obtain ⟨rfl, hs, ha⟩ := hR69
          rw [hs, ha]
          clear hs ha
          refine C.iload_n dX6_split_72 rfl ?_
          refine C.ic dX6_split_73 ?_
          refine C.kcall (hadd (wdK (a 2) p (wend (a 2) e p), (p : Int), -1)) cw_X6_add ml_X6_55 im_X6_add sl_X6_add dX6_split_74 (hL _ (by decide)) rfl rfl rfl (by omega) (Nat.le_refl _) (Nat.le_refl _) (Nat.le_of_ble_eq_true rfl) rfl (fun r74 c74 a74 hR74 => ?_)
          obtain ⟨rfl, hs, ha⟩ := hR74
          rw [hs, ha]
          clear hs ha
          refine C.goto (tgt := 130) dX6_split_77 (by decide) ?_
          refine C.iload dX6_split_130 rfl ?_
          refine C.istore_n dX6_split_132 (by decide) rfl ?_
          refine C.iincI dX6_split_133 rfl (by decide) rfl ?_
          refine C.goto (tgt := 22) dX6_split_136 (by decide) ?_
          exact nx (wend (a 2) e p) _ (by omega) hw2 ⟨hr, (by show 0 ≤ (p : Int) ∧ (p : Int) ≤ 400; omega), (by show -1 ≤ (-1 : Int) ∧ (-1 : Int) ≤ 999; omega)⟩ htk _ _
        · rw [if_neg hle] at htk
          have hno : ¬ (97 ≤ a 2 p % 256 ∧ a 2 p % 256 ≤ 122) := fun h => hle (by unfold inR; rw [decide_eq_true (by omega), decide_eq_true (by omega), decide_eq_true (by omega)]; rfl)
          by_cases hdi : inR (a 2) e 48 57 p = true
          · have hdi2 := inR_lt hdi
            rw [if_pos hdi] at htk
            have hwe : dend (a 2) e p = sk (a 2) e 48 57 (p + 1) := sk_go hdi
            have hw1 := sk_ge (a 2) e 48 57 (p + 1)
            have hw2 : dend (a 2) e p ≤ e := sk_le hpe
            have hE := k_numberEnd (d := d - 1) (g := g) (p := p) (by omega) hL h11 h4 hb2 (by omega)
            rw [hA2, ← hwe] at hE
            have hdg : ∀ k, k < dend (a 2) e p - p → 48 ≤ a 2 (p + k) ∧ a 2 (p + k) ≤ 57 := fun k hk => dig_all (e - p) p k rfl hk
            have hW := k_numberIn (d := d - 1) (g := g) (c := cc) (a := ac) (p := p) (w := dend (a 2) e p) (by omega) hL h11 h4 hb2 (by omega) hw2 (by rw [hA2]; exact hdg)
            rw [hA2] at hW
            have hr := vlK_rng hdg
            refine C.iload_n dX6_split_22 rfl ?_
            refine C.si dX6_split_23 (by decide) ?_
            refine C.icmp_geI (tgt := 139) dX6_split_26 (by decide) (by omega) (by omega) (fun hc26 => absurd hc26 (by omega)) (fun hc26 => ?_)
            refine C.iload_n dX6_split_29 rfl ?_
            refine C.aload_n dX6_split_30 rfl ?_
            refine C.getf gf_X6_39 dX6_split_31 (hL _ (by decide)) rfl rfl ?_
            refine C.topI (b := (e : Int)) h11 ?_
            refine C.icmp_geI (tgt := 139) dX6_split_34 (by decide) (by omega) (by omega) (fun hc34 => absurd hc34 (by omega)) (fun hc34 => ?_)
            refine C.aload_n dX6_split_37 rfl ?_
            refine C.iload_n dX6_split_38 rfl ?_
            refine C.kcall (hA) cw_X4_at ml_X6_40 im_X4_at sl_X4_at dX6_split_39 (hL _ (by decide)) rfl rfl rfl (by omega) (Nat.le_refl _) (Nat.le_refl _) (Nat.le_of_ble_eq_true rfl) rfl (fun r39 c39 a39 hR39 => ?_)
            obtain ⟨rfl, hs, ha⟩ := hR39
            rw [hs, ha]
            clear hs ha
            refine C.istore dX6_split_42 (by decide) rfl ?_
            refine C.iload_n dX6_split_44 rfl ?_
            refine C.ic dX6_split_45 ?_
            refine C.iaddI dX6_split_46 ?_
            refine C.istore dX6_split_47 (by decide) rfl ?_
            refine C.iload dX6_split_49 rfl ?_
            refine C.callS (s_isLetter (d := d - 1) (z := a 2 p % 256) ⟨by omega, by omega⟩) cw_X6_isLetter ml_X6_43 sm_X6_isLetter dX6_split_51 rfl (by omega) (Nat.le_refl _) (Nat.le_refl _) (Nat.le_of_ble_eq_true rfl) rfl (fun r L9 f9 h9 => ?_)
            obtain ⟨rfl, hL9, hf9⟩ := h9
            rw [hL9, hf9]
            clear hL9 hf9
            rw [show (decide ((97 : Int) ≤ a 2 p % 256) && decide (a 2 p % 256 ≤ 122)) = false by simp only [Bool.and_eq_false_imp, decide_eq_true_eq, decide_eq_false_iff_not]; omega]
            refine C.if_eqI (tgt := 80) dX6_split_54 (by decide) (by decide) (fun hc54 => ?_) (fun hc54 => absurd hc54 (by decide))
            refine C.iload dX6_split_80 rfl ?_
            refine C.callS (s_isDigit (d := d - 1) (z := a 2 p % 256) ⟨by omega, by omega⟩) cw_X6_isDigit ml_X6_59 sm_X6_isDigit dX6_split_82 rfl (by omega) (Nat.le_refl _) (Nat.le_refl _) (Nat.le_of_ble_eq_true rfl) rfl (fun r L9 f9 h9 => ?_)
            obtain ⟨rfl, hL9, hf9⟩ := h9
            rw [hL9, hf9]
            clear hL9 hf9
            rw [decide_eq_true (by omega : (48 : Int) ≤ a 2 p % 256), decide_eq_true (by omega : a 2 p % 256 ≤ 57)]
            refine C.if_eqI (tgt := 112) dX6_split_85 (by decide) (by decide) (fun hc85 => absurd hc85 (by decide)) (fun hc85 => ?_)
            refine C.aload_n dX6_split_88 rfl ?_
            refine C.iload_n dX6_split_89 rfl ?_
            refine C.kcallS (hE) cw_X6_numberEnd ml_X6_62 sm_X6_numberEnd dX6_split_90 rfl (by omega) (Nat.le_refl _) (Nat.le_refl _) (Nat.le_of_ble_eq_true rfl) rfl (fun r90 c90 a90 hR90 => ?_)
            obtain ⟨rfl, hs, ha⟩ := hR90
            rw [hs, ha]
            clear hs ha
            refine C.istore dX6_split_93 (by decide) rfl ?_
            refine C.aload_n dX6_split_95 rfl ?_
            refine C.bi dX6_split_96 (by decide) ?_
            refine C.iload_n dX6_split_98 rfl ?_
            refine C.aload_n dX6_split_99 rfl ?_
            refine C.iload_n dX6_split_100 rfl ?_
            refine C.iload dX6_split_101 rfl ?_
            refine C.kcallS (hW) cw_X6_numberIn ml_X6_65 sm_X6_numberIn dX6_split_103 rfl (by omega) (Nat.le_refl _) (Nat.le_refl _) (Nat.le_of_ble_eq_true rfl) rfl (fun r103 c103 a103 hR103 => ?_)
            obtain ⟨rfl, hs, ha⟩ := hR103
            rw [hs, ha]
            clear hs ha
            refine C.kcall (hadd (17, (p : Int), vlK (a 2) p (dend (a 2) e p))) cw_X6_add ml_X6_55 im_X6_add sl_X6_add dX6_split_106 (hL _ (by decide)) rfl rfl rfl (by omega) (Nat.le_refl _) (Nat.le_refl _) (Nat.le_of_ble_eq_true rfl) rfl (fun r106 c106 a106 hR106 => ?_)
            obtain ⟨rfl, hs, ha⟩ := hR106
            rw [hs, ha]
            clear hs ha
            refine C.goto (tgt := 130) dX6_split_109 (by decide) ?_
            refine C.iload dX6_split_130 rfl ?_
            refine C.istore_n dX6_split_132 (by decide) rfl ?_
            refine C.iincI dX6_split_133 rfl (by decide) rfl ?_
            refine C.goto (tgt := 22) dX6_split_136 (by decide) ?_
            exact nx (dend (a 2) e p) _ (by omega) hw2 ⟨(by show 0 ≤ (17 : Int) ∧ (17 : Int) ≤ 23; omega), (by show 0 ≤ (p : Int) ∧ (p : Int) ≤ 400; omega), hr⟩ htk _ _
          · rw [if_neg hdi] at htk
            have hno2 : ¬ (48 ≤ a 2 p % 256 ∧ a 2 p % 256 ≤ 57) := fun h => hdi (by unfold inR; rw [decide_eq_true (by omega), decide_eq_true (by omega), decide_eq_true (by omega)]; rfl)
            by_cases hsp : a 2 p = 32
            · rw [if_pos hsp] at htk
              have nx2 := fun v4 v5 => ih (i + 1) (p + 1) ts cc ac (by omega) (by omega) (by omega) (by omega) hP h64 h65 hg hga htk v4 v5
              refine C.iload_n dX6_split_22 rfl ?_
              refine C.si dX6_split_23 (by decide) ?_
              refine C.icmp_geI (tgt := 139) dX6_split_26 (by decide) (by omega) (by omega) (fun hc26 => absurd hc26 (by omega)) (fun hc26 => ?_)
              refine C.iload_n dX6_split_29 rfl ?_
              refine C.aload_n dX6_split_30 rfl ?_
              refine C.getf gf_X6_39 dX6_split_31 (hL _ (by decide)) rfl rfl ?_
              refine C.topI (b := (e : Int)) h11 ?_
              refine C.icmp_geI (tgt := 139) dX6_split_34 (by decide) (by omega) (by omega) (fun hc34 => absurd hc34 (by omega)) (fun hc34 => ?_)
              refine C.aload_n dX6_split_37 rfl ?_
              refine C.iload_n dX6_split_38 rfl ?_
              refine C.kcall (hA) cw_X4_at ml_X6_40 im_X4_at sl_X4_at dX6_split_39 (hL _ (by decide)) rfl rfl rfl (by omega) (Nat.le_refl _) (Nat.le_refl _) (Nat.le_of_ble_eq_true rfl) rfl (fun r39 c39 a39 hR39 => ?_)
              obtain ⟨rfl, hs, ha⟩ := hR39
              rw [hs, ha]
              clear hs ha
              refine C.istore dX6_split_42 (by decide) rfl ?_
              refine C.iload_n dX6_split_44 rfl ?_
              refine C.ic dX6_split_45 ?_
              refine C.iaddI dX6_split_46 ?_
              refine C.istore dX6_split_47 (by decide) rfl ?_
              refine C.iload dX6_split_49 rfl ?_
              refine C.callS (s_isLetter (d := d - 1) (z := a 2 p % 256) ⟨by omega, by omega⟩) cw_X6_isLetter ml_X6_43 sm_X6_isLetter dX6_split_51 rfl (by omega) (Nat.le_refl _) (Nat.le_refl _) (Nat.le_of_ble_eq_true rfl) rfl (fun r L9 f9 h9 => ?_)
              obtain ⟨rfl, hL9, hf9⟩ := h9
              rw [hL9, hf9]
              clear hL9 hf9
              rw [show (decide ((97 : Int) ≤ a 2 p % 256) && decide (a 2 p % 256 ≤ 122)) = false by simp only [Bool.and_eq_false_imp, decide_eq_true_eq, decide_eq_false_iff_not]; omega]
              refine C.if_eqI (tgt := 80) dX6_split_54 (by decide) (by decide) (fun hc54 => ?_) (fun hc54 => absurd hc54 (by decide))
              refine C.iload dX6_split_80 rfl ?_
              refine C.callS (s_isDigit (d := d - 1) (z := a 2 p % 256) ⟨by omega, by omega⟩) cw_X6_isDigit ml_X6_59 sm_X6_isDigit dX6_split_82 rfl (by omega) (Nat.le_refl _) (Nat.le_refl _) (Nat.le_of_ble_eq_true rfl) rfl (fun r L9 f9 h9 => ?_)
              obtain ⟨rfl, hL9, hf9⟩ := h9
              rw [hL9, hf9]
              clear hL9 hf9
              rw [show (decide ((48 : Int) ≤ a 2 p % 256) && decide (a 2 p % 256 ≤ 57)) = false by simp only [Bool.and_eq_false_imp, decide_eq_true_eq, decide_eq_false_iff_not]; omega]
              refine C.if_eqI (tgt := 112) dX6_split_85 (by decide) (by decide) (fun hc85 => ?_) (fun hc85 => absurd hc85 (by decide))
              refine C.iload dX6_split_112 rfl ?_
              refine C.bi dX6_split_114 (by decide) ?_
              refine C.icmp_eqI (tgt := 130) dX6_split_116 (by decide) (by omega) (by omega) (fun hc116 => ?_) (fun hc116 => absurd hc116 (by omega))
              refine C.iload dX6_split_130 rfl ?_
              refine C.istore_n dX6_split_132 (by decide) rfl ?_
              refine C.iincI dX6_split_133 rfl (by decide) rfl ?_
              refine C.goto (tgt := 22) dX6_split_136 (by decide) ?_
              exact nx2 _ _
            · rw [if_neg hsp] at htk
              have hsg : sgK (a 2 p % 256) = sgK (a 2 p) := by
                unfold sgK
                by_cases hneg : a 2 p < 0
                · rw [if_neg (by omega), if_neg (by omega), if_neg (by omega), if_neg (by omega), if_neg (by omega), if_neg (by omega), if_neg (by omega), if_neg (by omega)]
                · rw [show a 2 p % 256 = a 2 p by omega]
              have hr := sgK_rng (a 2 p)
              refine C.iload_n dX6_split_22 rfl ?_
              refine C.si dX6_split_23 (by decide) ?_
              refine C.icmp_geI (tgt := 139) dX6_split_26 (by decide) (by omega) (by omega) (fun hc26 => absurd hc26 (by omega)) (fun hc26 => ?_)
              refine C.iload_n dX6_split_29 rfl ?_
              refine C.aload_n dX6_split_30 rfl ?_
              refine C.getf gf_X6_39 dX6_split_31 (hL _ (by decide)) rfl rfl ?_
              refine C.topI (b := (e : Int)) h11 ?_
              refine C.icmp_geI (tgt := 139) dX6_split_34 (by decide) (by omega) (by omega) (fun hc34 => absurd hc34 (by omega)) (fun hc34 => ?_)
              refine C.aload_n dX6_split_37 rfl ?_
              refine C.iload_n dX6_split_38 rfl ?_
              refine C.kcall (hA) cw_X4_at ml_X6_40 im_X4_at sl_X4_at dX6_split_39 (hL _ (by decide)) rfl rfl rfl (by omega) (Nat.le_refl _) (Nat.le_refl _) (Nat.le_of_ble_eq_true rfl) rfl (fun r39 c39 a39 hR39 => ?_)
              obtain ⟨rfl, hs, ha⟩ := hR39
              rw [hs, ha]
              clear hs ha
              refine C.istore dX6_split_42 (by decide) rfl ?_
              refine C.iload_n dX6_split_44 rfl ?_
              refine C.ic dX6_split_45 ?_
              refine C.iaddI dX6_split_46 ?_
              refine C.istore dX6_split_47 (by decide) rfl ?_
              refine C.iload dX6_split_49 rfl ?_
              refine C.callS (s_isLetter (d := d - 1) (z := a 2 p % 256) ⟨by omega, by omega⟩) cw_X6_isLetter ml_X6_43 sm_X6_isLetter dX6_split_51 rfl (by omega) (Nat.le_refl _) (Nat.le_refl _) (Nat.le_of_ble_eq_true rfl) rfl (fun r L9 f9 h9 => ?_)
              obtain ⟨rfl, hL9, hf9⟩ := h9
              rw [hL9, hf9]
              clear hL9 hf9
              rw [show (decide ((97 : Int) ≤ a 2 p % 256) && decide (a 2 p % 256 ≤ 122)) = false by simp only [Bool.and_eq_false_imp, decide_eq_true_eq, decide_eq_false_iff_not]; omega]
              refine C.if_eqI (tgt := 80) dX6_split_54 (by decide) (by decide) (fun hc54 => ?_) (fun hc54 => absurd hc54 (by decide))
              refine C.iload dX6_split_80 rfl ?_
              refine C.callS (s_isDigit (d := d - 1) (z := a 2 p % 256) ⟨by omega, by omega⟩) cw_X6_isDigit ml_X6_59 sm_X6_isDigit dX6_split_82 rfl (by omega) (Nat.le_refl _) (Nat.le_refl _) (Nat.le_of_ble_eq_true rfl) rfl (fun r L9 f9 h9 => ?_)
              obtain ⟨rfl, hL9, hf9⟩ := h9
              rw [hL9, hf9]
              clear hL9 hf9
              rw [show (decide ((48 : Int) ≤ a 2 p % 256) && decide (a 2 p % 256 ≤ 57)) = false by simp only [Bool.and_eq_false_imp, decide_eq_true_eq, decide_eq_false_iff_not]; omega]
              refine C.if_eqI (tgt := 112) dX6_split_85 (by decide) (by decide) (fun hc85 => ?_) (fun hc85 => absurd hc85 (by decide))
              refine C.iload dX6_split_112 rfl ?_
              refine C.bi dX6_split_114 (by decide) ?_
              refine C.icmp_eqI (tgt := 130) dX6_split_116 (by decide) (by omega) (by omega) (fun hc116 => absurd hc116 (by omega)) (fun hc116 => ?_)
              refine C.aload_n dX6_split_119 rfl ?_
              refine C.iload dX6_split_120 rfl ?_
              refine C.callS (s_sign (d := d - 1) (z := a 2 p % 256) ⟨by omega, by omega⟩) cw_X5_sign ml_X6_68 sm_X5_sign dX6_split_122 rfl (by omega) (Nat.le_refl _) (Nat.le_refl _) (Nat.le_of_ble_eq_true rfl) rfl (fun r L9 f9 h9 => ?_)
              obtain ⟨rfl, hL9, hf9⟩ := h9
              rw [hL9, hf9]
              clear hL9 hf9
              rw [hsg]
              refine C.iload_n dX6_split_125 rfl ?_
              refine C.ic dX6_split_126 ?_
              refine C.kcall (hadd (sgK (a 2 p), (p : Int), -1)) cw_X6_add ml_X6_55 im_X6_add sl_X6_add dX6_split_127 (hL _ (by decide)) rfl rfl rfl (by omega) (Nat.le_refl _) (Nat.le_refl _) (Nat.le_of_ble_eq_true rfl) rfl (fun r127 c127 a127 hR127 => ?_)
              obtain ⟨rfl, hs, ha⟩ := hR127
              rw [hs, ha]
              clear hs ha
              refine C.iload dX6_split_130 rfl ?_
              refine C.istore_n dX6_split_132 (by decide) rfl ?_
              refine C.iincI dX6_split_133 rfl (by decide) rfl ?_
              refine C.goto (tgt := 22) dX6_split_136 (by decide) ?_
              exact nx (p + 1) _ (by omega) (by omega) ⟨hr, (by show 0 ≤ (p : Int) ∧ (p : Int) ≤ 400; omega), (by show -1 ≤ (-1 : Int) ∧ (-1 : Int) ≤ 999; omega)⟩ htk _ _
  have := loop 400 0 0 [] (va_up (va_up (va_up c 63 0) 65 0) 64 e) a rfl (Nat.le_refl _) (Nat.zero_le _) (Nat.le_refl _) ⟨rfl, (fun j t h => by cases h), (fun t h => by cases h)⟩ rfl rfl (fun j x1 x2 x3 => by rw [va_up_ne _ _ x2, va_up_ne _ _ x3, va_up_ne _ _ x1]) (fun _ _ _ _ => rfl) rfl
  refine C.aload_n dX6_split_0 rfl ?_
  refine C.ic dX6_split_1 ?_
  refine C.kput_63 hL pf_X6_23 dX6_split_2 ?_
  refine C.aload_n dX6_split_5 rfl ?_
  refine C.ic dX6_split_6 ?_
  refine C.kput_65 hL pf_X6_30 dX6_split_7 ?_
  refine C.aload_n dX6_split_10 rfl ?_
  refine C.aload_n dX6_split_11 rfl ?_
  refine C.getf gf_X6_39 dX6_split_12 (hL _ (by decide)) rfl rfl ?_
  refine C.topI (b := (e : Int)) he ?_
  refine C.kput_64 hL pf_X6_27 dX6_split_15 ?_
  refine C.ic dX6_split_18 ?_
  refine C.istore_n dX6_split_19 (by decide) rfl ?_
  refine C.ic dX6_split_20 ?_
  refine C.istore_n dX6_split_21 (by decide) rfl ?_
  exact this _ _
end SPLIT2
