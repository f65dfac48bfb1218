/-! the class's writer -/
/-- the text written so far; what is beyond the room is only counted -/
def WS (c : SF) (a : SA) (T : List Int) : Prop := c 111 = T.length ∧ (∀ j v, T[j]? = some v → j < 400 → a 12 j = v) ∧ T.length ≤ 15000
def GW (c c' : SF) (a a' : SA) : Prop := (∀ j, j ≠ 111 → j ≠ 112 → c' j = c j) ∧ ∀ b, b ≠ 12 → a' b = a b
theorem GW.rf {c : SF} {a : SA} : GW c c a a := ⟨fun _ _ _ => rfl, fun _ _ => rfl⟩
theorem GW.tr {c1 c2 c3 : SF} {a1 a2 a3 : SA} (h1 : GW c1 c2 a1 a2) (h2 : GW c2 c3 a2 a3) : GW c1 c3 a1 a3 := ⟨fun j x y => (h2.1 j x y).trans (h1.1 j x y), fun b h => (h2.2 b h).trans (h1.2 b h)⟩
/-- the text is T now -/
def WP (c : SF) (a : SA) (T : List Int) (bo : Bool) : Option Value → SF → SA → Prop := fun r c' a' => r = none ∧ WS c' a' T ∧ c' 112 = b2i bo ∧ GW c c' a a'
theorem WP.tr {c c1 : SF} {a a1 : SA} {T : List Int} {bo : Bool} {r : Option Value} {c' : SF} {a' : SA} (hG : GW c c1 a a1) (h : WP c1 a1 T bo r c' a') : WP c a T bo r c' a' := ⟨h.1, h.2.1, h.2.2.1, hG.tr h.2.2.2⟩
section WRITE
variable {d : Nat} {c : SF} {a : SA} {L : List Nat} {g : Nat → AC} {T : List Int} {bo : Bool}
theorem w_put {z : Int} (hz : 0 ≤ z ∧ z < 128) (hL : ∀ k, k < 36 → k ∈ L) (hW : WS c a T) (h112 : c 112 = b2i bo) (hl : T.length < 15000) : KA yX7_put cX7_put 2 none d [.ref 11, .int (iI z)] L g c a (WP c a (T ++ [z]) bo) := by
  obtain ⟨h1, h2, h3⟩ := hW
  have hlen : (T ++ [z]).length = T.length + 1 := by rw [List.length_append]; rfl
  refine KA.of (by decide +kernel) rfl (Nat.le_of_ble_eq_true rfl) (fun X C => ?_)
  by_cases hr : T.length < 400
  · refine C.aload_n dX7_put_0 rfl ?_
    refine C.getf gf_X7_17 dX7_put_1 (hL _ (by decide)) rfl rfl ?_
    refine C.topI (b := (T.length : Int)) h1 ?_
    refine C.aload_n dX7_put_4 rfl ?_
    refine C.getf gf_X7_11 dX7_put_5 (hL _ (by decide)) rfl rfl ?_
    refine C.alenI dX7_put_8 (hL _ (by decide)) rfl (by decide) ?_
    refine C.icmp_geI (tgt := 23) dX7_put_9 (by decide) (by omega) (by decide) (fun hc9 => absurd hc9 (by omega)) (fun hc9 => ?_)
    refine C.aload_n dX7_put_12 rfl ?_
    refine C.getf gf_X7_11 dX7_put_13 (hL _ (by decide)) rfl rfl ?_
    refine C.aload_n dX7_put_16 rfl ?_
    refine C.getf gf_X7_17 dX7_put_17 (hL _ (by decide)) rfl rfl ?_
    refine C.topI (b := (T.length : Int)) h1 ?_
    refine C.iload_n dX7_put_20 rfl ?_
    refine C.i2b dX7_put_21 ?_
    rw [iI_i2b (by omega)]
    refine C.kast_12 hL (k := T.length) dX7_put_22 (by omega) (by omega) (by omega) ?_
    refine C.aload_n dX7_put_23 rfl ?_
    refine C.dup dX7_put_24 rfl ?_
    refine C.getf gf_X7_17 dX7_put_25 (hL _ (by decide)) rfl rfl ?_
    refine C.topI (b := (T.length : Int)) h1 ?_
    refine C.ic dX7_put_28 ?_
    refine C.iaddI dX7_put_29 ?_
    refine C.kput_111 hL pf_X7_17 dX7_put_30 ?_
    refine C.vret rfl dX7_put_33 (Nat.le_refl _) (Nat.le_refl _) ⟨_, _, ?_, rfl, rfl⟩
    refine ⟨rfl, ⟨?_, fun j v hj hj4 => ?_, by omega⟩, h112, fun j x y => va_up_ne _ _ x, fun b hb => va_up_ne _ _ hb⟩
    · rw [hlen]; exact va_up_self _ _ _
    · show va_up (a 12) T.length z j = v
      by_cases hjx : j < T.length
      · rw [List.getElem?_append_left hjx] at hj
        rw [va_up_ne _ _ (by omega)]
        exact h2 j v hj hj4
      · have hjl := (List.getElem?_eq_some_iff.mp hj).1
        rw [hlen] at hjl
        have hje : j = T.length := by omega
        subst hje
        rw [List.getElem?_append_right (Nat.le_refl _), Nat.sub_self] at hj
        rw [va_up_self]
        exact Option.some.inj hj
  · refine C.aload_n dX7_put_0 rfl ?_
    refine C.getf gf_X7_17 dX7_put_1 (hL _ (by decide)) rfl rfl ?_
    refine C.topI (b := (T.length : Int)) h1 ?_
    refine C.aload_n dX7_put_4 rfl ?_
    refine C.getf gf_X7_11 dX7_put_5 (hL _ (by decide)) rfl rfl ?_
    refine C.alenI dX7_put_8 (hL _ (by decide)) rfl (by decide) ?_
    refine C.icmp_geI (tgt := 23) dX7_put_9 (by decide) (by omega) (by decide) (fun hc9 => ?_) (fun hc9 => absurd hc9 (by omega))
    refine C.aload_n dX7_put_23 rfl ?_
    refine C.dup dX7_put_24 rfl ?_
    refine C.getf gf_X7_17 dX7_put_25 (hL _ (by decide)) rfl rfl ?_
    refine C.topI (b := (T.length : Int)) h1 ?_
    refine C.ic dX7_put_28 ?_
    refine C.iaddI dX7_put_29 ?_
    refine C.kput_111 hL pf_X7_17 dX7_put_30 ?_
    refine C.vret rfl dX7_put_33 (Nat.le_refl _) (Nat.le_refl _) ⟨_, _, ?_, rfl, rfl⟩
    refine ⟨rfl, ⟨?_, fun j v hj hj4 => ?_, by omega⟩, h112, fun j x y => va_up_ne _ _ x, fun b hb => rfl⟩
    · rw [hlen]; exact va_up_self _ _ _
    · rw [List.getElem?_append_left (by omega)] at hj
      exact h2 j v hj hj4
theorem w_blank (hd : 1 ≤ d) (hL : ∀ k, k < 36 → k ∈ L) (hW : WS c a T) (h112 : c 112 = b2i bo) (hl : T.length < 15000) : KA yX7_blank cX7_blank 1 none d [.ref 11] L g c a (WP c a (T ++ sp (!bo && decide (0 < T.length))) false) := by
  have M := w_put (d := d - 1) (g := g) (z := 32) (by decide) hL hW h112 hl
  have h1 := hW.1
  have h15 := hW.2.2
  refine KA.of (by decide +kernel) rfl (Nat.le_of_ble_eq_true rfl) (fun X C => ?_)
  by_cases h0 : 0 < T.length
  · cases bo with
    | false =>
      refine C.aload_n dX7_blank_0 rfl ?_
      refine C.getf gf_X7_17 dX7_blank_1 (hL _ (by decide)) rfl rfl ?_
      refine C.topI (b := (T.length : Int)) h1 ?_
      refine C.if_leI (tgt := 20) dX7_blank_4 (by decide) (by omega) (fun hc4 => absurd hc4 (by omega)) (fun hc4 => ?_)
      refine C.aload_n dX7_blank_7 rfl ?_
      refine C.getf gf_X7_21 dX7_blank_8 (hL _ (by decide)) rfl rfl ?_
      refine C.topI (b := 0) h112 ?_
      refine C.if_neI (tgt := 20) dX7_blank_11 (by decide) (by omega) (fun hc11 => absurd hc11 (fun h => h rfl)) (fun hc11 => ?_)
      refine C.aload_n dX7_blank_14 rfl ?_
      refine C.bi dX7_blank_15 (by decide) ?_
      refine C.kcall (M) cw_X7_put ml_X7_30 im_X7_put sl_X7_put dX7_blank_17 (hL _ (by decide)) rfl rfl rfl (by omega) (Nat.le_refl _) (Nat.le_refl _) (Nat.le_of_ble_eq_true rfl) rfl (fun r17 c17 a17 hR17 => ?_)
      obtain ⟨rfl, q1, q2, q3⟩ := hR17
      refine C.aload_n dX7_blank_20 rfl ?_
      refine C.ic dX7_blank_21 ?_
      refine C.kput_112 hL pf_X7_21 dX7_blank_22 (by first | exact Or.inl rfl | exact Or.inr rfl | assumption) ?_
      refine C.vret rfl dX7_blank_25 (Nat.le_refl _) (Nat.le_refl _) ⟨_, _, ?_, rfl, rfl⟩
      rw [decide_eq_true h0]
      exact ⟨rfl, ⟨q1.1, q1.2.1, q1.2.2⟩, rfl, fun j x y => (va_up_ne _ _ y).trans (q3.1 j x y), q3.2⟩
    | true =>
      refine C.aload_n dX7_blank_0 rfl ?_
      refine C.getf gf_X7_17 dX7_blank_1 (hL _ (by decide)) rfl rfl ?_
      refine C.topI (b := (T.length : Int)) h1 ?_
      refine C.if_leI (tgt := 20) dX7_blank_4 (by decide) (by omega) (fun hc4 => absurd hc4 (by omega)) (fun hc4 => ?_)
      refine C.aload_n dX7_blank_7 rfl ?_
      refine C.getf gf_X7_21 dX7_blank_8 (hL _ (by decide)) rfl rfl ?_
      refine C.topI (b := 1) h112 ?_
      refine C.if_neI (tgt := 20) dX7_blank_11 (by decide) (by omega) (fun hc11 => ?_) (fun hc11 => absurd hc11 (by decide))
      refine C.aload_n dX7_blank_20 rfl ?_
      refine C.ic dX7_blank_21 ?_
      refine C.kput_112 hL pf_X7_21 dX7_blank_22 (by first | exact Or.inl rfl | exact Or.inr rfl | assumption) ?_
      refine C.vret rfl dX7_blank_25 (Nat.le_refl _) (Nat.le_refl _) ⟨_, _, ?_, rfl, rfl⟩
      refine ⟨rfl, ?_, rfl, fun j x y => va_up_ne _ _ y, fun b hb => rfl⟩
      rw [show T ++ sp (!true && decide (0 < T.length)) = T by simp [sp]]
      exact hW
  · have hT : T = [] := List.length_eq_zero_iff.mp (by omega)
    refine C.aload_n dX7_blank_0 rfl ?_
    refine C.getf gf_X7_17 dX7_blank_1 (hL _ (by decide)) rfl rfl ?_
    refine C.topI (b := (T.length : Int)) h1 ?_
    refine C.if_leI (tgt := 20) dX7_blank_4 (by decide) (by omega) (fun hc4 => ?_) (fun hc4 => absurd hc4 (by omega))
    refine C.aload_n dX7_blank_20 rfl ?_
    refine C.ic dX7_blank_21 ?_
    refine C.kput_112 hL pf_X7_21 dX7_blank_22 (by first | exact Or.inl rfl | exact Or.inr rfl | assumption) ?_
    refine C.vret rfl dX7_blank_25 (Nat.le_refl _) (Nat.le_refl _) ⟨_, _, ?_, rfl, rfl⟩
    refine ⟨rfl, ?_, rfl, fun j x y => va_up_ne _ _ y, fun b hb => rfl⟩
    rw [decide_eq_false h0, Bool.and_false, show T ++ sp false = T by simp [sp]]
    exact hW
theorem sp_len (f : Bool) : (sp f).length ≤ 1 := by cases f <;> decide
set_option maxRecDepth 20000 in
theorem w_word {w : Nat} (hw : w < 16) (hd : 5 ≤ d) (hL : ∀ k, k < 36 → k ∈ L) (hW : WS c a T) (h112 : c 112 = b2i bo) (hl : T.length < 14900) : KA yX7_writeWord cX7_writeWord 4 none d [.ref 11, .int (iI w)] L g c a (WP c a (T ++ (sp (!bo && decide (0 < T.length)) ++ zW.getD w [])) false) := by
  have M0 := w_blank (d := d - 1) (g := g) (by omega) hL hW h112 (by omega)
  have hsl := sp_len (!bo && decide (0 < T.length))
  generalize hTb : T ++ sp (!bo && decide (0 < T.length)) = Tb at *
  have hTl : Tb.length ≤ T.length + 1 := by rw [← hTb, List.length_append]; omega
  rw [← List.append_assoc, hTb]
  obtain ⟨⟨q, hj, hq⟩, hzr, hzl⟩ := tW hw
  generalize zW.getD w [] = zs at *
  have hql : q.2.2.2.length = zs.length := by rw [hq, List.length_map]
  refine KA.of (by decide +kernel) rfl (Nat.le_of_ble_eq_true rfl) (fun X C => ?_)
  have loop : ∀ (m k : Nat) (c1 : SF) (a1 : SA), k + m = zs.length → WS c1 a1 (Tb ++ zs.take k) → c1 112 = b2i false → GW c c1 a a1 → X 0 0 L (kv c1 a1 g) 11 [some (.ref 11), some (.int (iI w)), some (.ref (1000 + w)), some (.int (iI k))] [] := by
    intro m
    induction m with
    | zero =>
      intro k c1 a1 hk hW1 h1 hG
      rw [List.take_of_length_le (by omega)] at hW1
      refine C.iload_n dX7_writeWord_11 rfl ?_
      refine C.aload_n dX7_writeWord_12 rfl ?_
      refine C.callT (j_length (d := d - 1) (by omega) hj) cw_J0_length_8abf5 ml_X7_112 im_J0_length_8abf5 sl_J0_length_8abf5 dX7_writeWord_13 hj rfl rfl (by omega) (Nat.le_refl _) (Nat.le_refl _) (Nat.le_of_ble_eq_true rfl) rfl (fun r L9 f9 h9 => ?_)
      obtain ⟨rfl, hL9, hf9⟩ := h9
      rw [hL9, hf9]
      clear hL9 hf9
      refine C.icmp_geI (tgt := 34) dX7_writeWord_16 (by decide) (by omega) (by omega) (fun hc16 => ?_) (fun hc16 => absurd hc16 (by omega))
      refine C.vret rfl dX7_writeWord_34 (Nat.le_refl _) (Nat.le_refl _) ⟨_, _, ?_, rfl, rfl⟩
      exact ⟨rfl, hW1, h1, hG⟩
    | succ m ih =>
      intro k c1 a1 hk hW1 h1 hG
      have hz := hzr (zs.getD k 0) (getD_mem (by omega))
      have hzz : q.2.2.2.getD k 0 = iI (zs.getD k 0) := by rw [hq]; exact getD_iI (by omega)
      have M := w_put (d := d - 1) (g := g) (z := zs.getD k 0) hz hL hW1 h1 (by rw [List.length_append, List.length_take]; omega)
      refine C.iload_n dX7_writeWord_11 rfl ?_
      refine C.aload_n dX7_writeWord_12 rfl ?_
      refine C.callT (j_length (d := d - 1) (by omega) hj) cw_J0_length_8abf5 ml_X7_112 im_J0_length_8abf5 sl_J0_length_8abf5 dX7_writeWord_13 hj rfl rfl (by omega) (Nat.le_refl _) (Nat.le_refl _) (Nat.le_of_ble_eq_true rfl) rfl (fun r L9 f9 h9 => ?_)
      obtain ⟨rfl, hL9, hf9⟩ := h9
      rw [hL9, hf9]
      clear hL9 hf9
      refine C.icmp_geI (tgt := 34) dX7_writeWord_16 (by decide) (by omega) (by omega) (fun hc16 => absurd hc16 (by omega)) (fun hc16 => ?_)
      refine C.aload_n dX7_writeWord_19 rfl ?_
      refine C.aload_n dX7_writeWord_20 rfl ?_
      refine C.iload_n dX7_writeWord_21 rfl ?_
      refine C.callT (j_charAt (d := d - 1) (by omega) hj (by omega) (by omega) hzz hz) cw_J0_charAt_5068e ml_X7_117 im_J0_charAt_5068e sl_J0_charAt_5068e dX7_writeWord_22 hj rfl rfl (by omega) (Nat.le_refl _) (Nat.le_refl _) (Nat.le_of_ble_eq_true rfl) rfl (fun r L9 f9 h9 => ?_)
      obtain ⟨rfl, hL9, hf9⟩ := h9
      rw [hL9, hf9]
      clear hL9 hf9
      refine C.kcall (M) cw_X7_put ml_X7_30 im_X7_put sl_X7_put dX7_writeWord_25 (hL _ (by decide)) rfl rfl rfl (by omega) (Nat.le_refl _) (Nat.le_refl _) (Nat.le_of_ble_eq_true rfl) rfl (fun r25 c25 a25 hR25 => ?_)
      obtain ⟨rfl, q1, q2, q3⟩ := hR25
      refine C.iincI dX7_writeWord_28 rfl (by decide) rfl ?_
      refine C.goto (tgt := 11) dX7_writeWord_31 (by decide) ?_
      skip
      refine ih (k + 1) c25 a25 (by omega) ?_ q2 (hG.tr q3)
      have e : Tb ++ zs.take (k + 1) = Tb ++ zs.take k ++ [zs.getD k 0] := by
        rw [List.take_succ_eq_append_getElem (by omega), List.append_assoc, List.getD_eq_getElem?_getD, List.getElem?_eq_getElem (by omega)]
        rfl
      rw [e]
      exact q1
  refine C.aload_n dX7_writeWord_0 rfl ?_
  refine C.kcall (M0) cw_X7_blank ml_X7_105 im_X7_blank sl_X7_blank dX7_writeWord_1 (hL _ (by decide)) rfl rfl rfl (by omega) (Nat.le_refl _) (Nat.le_refl _) (Nat.le_of_ble_eq_true rfl) rfl (fun r1 c1 a1 hR1 => ?_)
  obtain ⟨rfl, q1, q2, q3⟩ := hR1
  refine C.iload_n dX7_writeWord_4 rfl ?_
  refine C.callS (s_text (d := d - 1) hw) cw_X5_text ml_X7_108 sm_X5_text dX7_writeWord_5 rfl (by omega) (Nat.le_refl _) (Nat.le_refl _) (Nat.le_of_ble_eq_true rfl) rfl (fun r L9 f9 h9 => ?_)
  obtain ⟨rfl, hL9, hf9⟩ := h9
  rw [hL9, hf9]
  clear hL9 hf9
  refine C.astore_n dX7_writeWord_8 (by decide) rfl ?_
  refine C.ic dX7_writeWord_9 ?_
  refine C.istore_n dX7_writeWord_10 (by decide) rfl ?_
  exact loop zs.length 0 c1 a1 (by omega) (by rw [List.take_zero, List.append_nil]; exact q1) q2 q3
theorem w_number {v : Int} (hv : 0 ≤ v ∧ v ≤ 999) (hd : 2 ≤ d) (hL : ∀ k, k < 36 → k ∈ L) (hW : WS c a T) (h112 : c 112 = b2i bo) (hl : T.length < 14900) : KA yX7_writeNumber cX7_writeNumber 2 none d [.ref 11, .int (iI v)] L g c a (WP c a (T ++ (sp (!bo && decide (0 < T.length)) ++ dgL v)) false) := by
  have M0 := w_blank (d := d - 1) (g := g) (by omega) hL hW h112 (by omega)
  have hsl := sp_len (!bo && decide (0 < T.length))
  generalize hTb : T ++ sp (!bo && decide (0 < T.length)) = Tb at *
  have hTl : Tb.length ≤ T.length + 1 := by rw [← hTb, List.length_append]; omega
  rw [← List.append_assoc, hTb]
  refine KA.of (by decide +kernel) rfl (Nat.le_of_ble_eq_true rfl) (fun X C => ?_)
  have last : ∀ (c1 : SF) (a1 : SA) (T1 : List Int), WS c1 a1 T1 → T1.length < 14990 → c1 112 = b2i false → GW c c1 a a1 → T1 ++ [48 + v / 1 % 10] = Tb ++ dgL v → X 0 0 L (kv c1 a1 g) 41 [some (.ref 11), some (.int (iI v))] [] := by
    intro c1 a1 T1 hW1 hl1 h1 hG he
    have M := w_put (d := d - 1) (g := g) (z := 48 + v / 1 % 10) (by omega) hL hW1 h1 (by omega)
    refine C.aload_n dX7_writeNumber_41 rfl ?_
    refine C.bi dX7_writeNumber_42 (by decide) ?_
    refine C.iload_n dX7_writeNumber_44 rfl ?_
    refine C.bi dX7_writeNumber_45 (by decide) ?_
    refine C.iremI dX7_writeNumber_47 (by omega) (by omega) ?_
    refine C.iaddI dX7_writeNumber_48 ?_
    refine C.topI (b := 48 + v / 1 % 10) (by omega) ?_
    refine C.kcall (M) cw_X7_put ml_X7_30 im_X7_put sl_X7_put dX7_writeNumber_49 (hL _ (by decide)) rfl rfl rfl (by omega) (Nat.le_refl _) (Nat.le_refl _) (Nat.le_of_ble_eq_true rfl) rfl (fun r49 c49 a49 hR49 => ?_)
    obtain ⟨rfl, q1, q2, q3⟩ := hR49
    refine C.vret rfl dX7_writeNumber_52 (Nat.le_refl _) (Nat.le_refl _) ⟨_, _, ?_, rfl, rfl⟩
    exact ⟨rfl, by rw [← he]; exact q1, q2, hG.tr q3⟩
  have mid : ∀ (c1 : SF) (a1 : SA) (T1 : List Int), 9 < v → WS c1 a1 T1 → T1.length < 14980 → c1 112 = b2i false → GW c c1 a a1 → T1 ++ [48 + v / 10 % 10, 48 + v / 1 % 10] = Tb ++ dgL v → X 0 0 L (kv c1 a1 g) 27 [some (.ref 11), some (.int (iI v))] [] := by
    intro c1 a1 T1 h9 hW1 hl1 h1 hG he
    have M := w_put (d := d - 1) (g := g) (z := 48 + v / 10 % 10) (by omega) hL hW1 h1 (by omega)
    refine C.aload_n dX7_writeNumber_27 rfl ?_
    refine C.bi dX7_writeNumber_28 (by decide) ?_
    refine C.iload_n dX7_writeNumber_30 rfl ?_
    refine C.bi dX7_writeNumber_31 (by decide) ?_
    refine C.idivI dX7_writeNumber_33 (by omega) (by omega) ?_
    refine C.bi dX7_writeNumber_34 (by decide) ?_
    refine C.iremI dX7_writeNumber_36 (by omega) (by omega) ?_
    refine C.iaddI dX7_writeNumber_37 ?_
    refine C.kcall (M) cw_X7_put ml_X7_30 im_X7_put sl_X7_put dX7_writeNumber_38 (hL _ (by decide)) rfl rfl rfl (by omega) (Nat.le_refl _) (Nat.le_refl _) (Nat.le_of_ble_eq_true rfl) rfl (fun r38 c38 a38 hR38 => ?_)
    obtain ⟨rfl, q1, q2, q3⟩ := hR38
    exact last _ _ _ q1 (by rw [List.length_append]; show T1.length + 1 < 14990; omega) q2 (hG.tr q3) (by rw [List.append_assoc]; exact he)
  by_cases h99 : 99 < v
  · have hdg : dgL v = [48 + v / 100 % 10, 48 + v / 10 % 10, 48 + v / 1 % 10] := by unfold dgL; rw [if_pos h99]
    have MM := fun (c1 : SF) (a1 : SA) (hW1 : WS c1 a1 Tb) (h1 : c1 112 = b2i false) => w_put (d := d - 1) (g := g) (z := 48 + v / 100 % 10) (by omega) hL hW1 h1 (by omega)
    refine C.aload_n dX7_writeNumber_0 rfl ?_
    refine C.kcall (M0) cw_X7_blank ml_X7_105 im_X7_blank sl_X7_blank dX7_writeNumber_1 (hL _ (by decide)) rfl rfl rfl (by omega) (Nat.le_refl _) (Nat.le_refl _) (Nat.le_of_ble_eq_true rfl) rfl (fun r1 c1 a1 hR1 => ?_)
    obtain ⟨rfl, q1, q2, q3⟩ := hR1
    refine C.iload_n dX7_writeNumber_4 rfl ?_
    refine C.bi dX7_writeNumber_5 (by decide) ?_
    refine C.icmp_ltI (tgt := 21) dX7_writeNumber_7 (by decide) (by omega) (by omega) (fun hc7 => absurd hc7 (by omega)) (fun hc7 => ?_)
    refine C.aload_n dX7_writeNumber_10 rfl ?_
    refine C.bi dX7_writeNumber_11 (by decide) ?_
    refine C.iload_n dX7_writeNumber_13 rfl ?_
    refine C.bi dX7_writeNumber_14 (by decide) ?_
    refine C.idivI dX7_writeNumber_16 (by omega) (by omega) ?_
    refine C.iaddI dX7_writeNumber_17 ?_
    refine C.topI (b := 48 + v / 100 % 10) (by omega) ?_
    refine C.kcall ((MM c1 a1 q1 q2)) cw_X7_put ml_X7_30 im_X7_put sl_X7_put dX7_writeNumber_18 (hL _ (by decide)) rfl rfl rfl (by omega) (Nat.le_refl _) (Nat.le_refl _) (Nat.le_of_ble_eq_true rfl) rfl (fun r18 c18 a18 hR18 => ?_)
    obtain ⟨rfl, y1, y2, y3⟩ := hR18
    refine C.iload_n dX7_writeNumber_21 rfl ?_
    refine C.bi dX7_writeNumber_22 (by decide) ?_
    refine C.icmp_ltI (tgt := 41) dX7_writeNumber_24 (by decide) (by omega) (by omega) (fun hc24 => absurd hc24 (by omega)) (fun hc24 => ?_)
    exact mid _ _ _ (by omega) y1 (by rw [List.length_append]; show Tb.length + 1 < 14980; omega) y2 (q3.tr y3) (by rw [hdg, List.append_assoc]; rfl)
  · by_cases h9 : 9 < v
    · have hdg : dgL v = [48 + v / 10 % 10, 48 + v / 1 % 10] := by unfold dgL; rw [if_neg h99, if_pos h9]
      refine C.aload_n dX7_writeNumber_0 rfl ?_
      refine C.kcall (M0) cw_X7_blank ml_X7_105 im_X7_blank sl_X7_blank dX7_writeNumber_1 (hL _ (by decide)) rfl rfl rfl (by omega) (Nat.le_refl _) (Nat.le_refl _) (Nat.le_of_ble_eq_true rfl) rfl (fun r1 c1 a1 hR1 => ?_)
      obtain ⟨rfl, q1, q2, q3⟩ := hR1
      refine C.iload_n dX7_writeNumber_4 rfl ?_
      refine C.bi dX7_writeNumber_5 (by decide) ?_
      refine C.icmp_ltI (tgt := 21) dX7_writeNumber_7 (by decide) (by omega) (by omega) (fun hc7 => ?_) (fun hc7 => absurd hc7 (by omega))
      refine C.iload_n dX7_writeNumber_21 rfl ?_
      refine C.bi dX7_writeNumber_22 (by decide) ?_
      refine C.icmp_ltI (tgt := 41) dX7_writeNumber_24 (by decide) (by omega) (by omega) (fun hc24 => absurd hc24 (by omega)) (fun hc24 => ?_)
      exact mid _ _ _ h9 q1 (by omega) q2 q3 (by rw [hdg])
    · have hdg : dgL v = [48 + v / 1 % 10] := by unfold dgL; rw [if_neg h99, if_neg h9]
      refine C.aload_n dX7_writeNumber_0 rfl ?_
      refine C.kcall (M0) cw_X7_blank ml_X7_105 im_X7_blank sl_X7_blank dX7_writeNumber_1 (hL _ (by decide)) rfl rfl rfl (by omega) (Nat.le_refl _) (Nat.le_refl _) (Nat.le_of_ble_eq_true rfl) rfl (fun r1 c1 a1 hR1 => ?_)
      obtain ⟨rfl, q1, q2, q3⟩ := hR1
      refine C.iload_n dX7_writeNumber_4 rfl ?_
      refine C.bi dX7_writeNumber_5 (by decide) ?_
      refine C.icmp_ltI (tgt := 21) dX7_writeNumber_7 (by decide) (by omega) (by omega) (fun hc7 => ?_) (fun hc7 => absurd hc7 (by omega))
      refine C.iload_n dX7_writeNumber_21 rfl ?_
      refine C.bi dX7_writeNumber_22 (by decide) ?_
      refine C.icmp_ltI (tgt := 41) dX7_writeNumber_24 (by decide) (by omega) (by omega) (fun hc24 => ?_) (fun hc24 => absurd hc24 (by omega))
      exact last _ _ _ q1 (by omega) q2 q3 (by rw [hdg])
end WRITE
