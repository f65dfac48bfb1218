/-! the law's own small methods -/
section ROWS35
variable {own : String} {cc : ByteArray} {nL : Nat} {rt : Option FieldType} {ini : Bool} {d mc ms : Nat} {Po : AT} {X : XT} {ce sl pc : Nat} {L : List Nat} {f : Nat → AC} {lv : List (Option Value)} {st : List Value}
theorem Cx.lald0 (C : Cx own cc nL rt ini d mc ms Po X) {g : Nat → Int64} (dg : decode cc pc = .ok (.laload, 1)) (hk : 35 ∈ L) (hf : f 35 = cj_ 3 1 g) (kk : X ce sl L f (pc + 1) lv (.long (g 0) :: st)) : X ce sl L f pc lv (.int (iI 0) :: .ref 35 :: st) :=
  C.lald dg hk hf (iI_in (by omega) (by omega) (by omega)) kk
theorem Cx.last0 (C : Cx own cc nL rt ini d mc ms Po X) {g : Nat → Int64} {x : Int64} (dg : decode cc pc = .ok (.lastore, 1)) (hk : 35 ∈ L) (hf : f 35 = cj_ 3 1 g) (kk : X ce sl L (va_up f 35 (cj_ 3 1 (vp_updL g 0 x))) (pc + 1) lv st) : X ce sl L f pc lv (.long x :: .int (iI 0) :: .ref 35 :: st) :=
  C.last dg hk hf (iI_in (by omega) (by omega) (by omega)) rfl kk
end ROWS35
/-- a method gave the number z; the long[1] holds it -/
def WpL (Po : AT) : AT := fun r L' f' => r = some (.int (iI 0)) ∧ ∃ (z : Int) (f1 : Nat → AC) (g : Nat → Int64), Po (some (.int (iI z))) L' f1 ∧ f' = va_up f1 35 (cj_ 3 1 g) ∧ g 0 = (iI z).toInt64
def L35 (L : List Nat) (f : Nat → AC) : Prop := 35 ∈ L ∧ ∃ g, f 35 = cj_ 3 1 g
def exN (E : String) : Int := if E = eIS then 1 else if E = eIA then 1 else if E = eIO then 2 else 3
section WRA
variable {d d2 mc ms : Nat} {L : List Nat} {f : Nat → AC} {fs : List Value} {Po : AT} {PX : String → List Nat → (Nat → AC) → Prop}
theorem wn_letter (hd : d2 + 1 ≤ d) (h0L : 0 ∈ L) (h0f : f 0 = .inr (10, fs)) (M : AM yX8_letter cX8_letter 2 (some .int) d2 mc ms [.ref 0] L f Po) (hPo : ∀ r L' f', Po r L' f' → (∃ z : Int, r = some (.int (iI z))) ∧ L35 L' f') : AW yL_letter cL_letter 3 (some .int) [(0, 8, 11, 13)] d mc ms [.ref 0, .ref 35] L f (WpL Po) := by
  refine AW.of (by decide +kernel) (by simp [Value.category]) (Nat.le_of_ble_eq_true rfl) (fun X C0 => ?_); have C := C0.C
  refine C.aload_n dL_letter_0 rfl ?_
  refine C.ic dL_letter_1 ?_
  refine C.aload_n dL_letter_2 rfl ?_
  refine C.callV (M) cw_X8_letter ml_L_7 im_X8_letter sl_X8_letter dL_letter_3 h0L h0f rfl rfl (by omega) (by omega) (by omega) (Nat.le_of_ble_eq_true rfl) rfl (fun r3 L3 f3 hR3 => ?_)
  obtain ⟨⟨z, rfl⟩, h35, g, hg⟩ := hPo _ _ _ hR3
  refine C.i2l dL_letter_6 ?_
  refine C.last0 dL_letter_7 h35 hg ?_
  refine C.goto (tgt := 14) dL_letter_8 (by decide) ?_
  refine C.ic dL_letter_14 ?_
  refine C.retI rfl (by first | rfl | (exact (iI_bool (by first | exact Or.inl rfl | exact Or.inr rfl | assumption)).1)) dL_letter_15 (by omega) (by omega) ⟨rfl, z, _, _, hR3, rfl, rfl⟩
  skip
theorem wx_letter (hd : d2 + 1 ≤ d) (h0L : 0 ∈ L) (h0f : f 0 = .inr (10, fs)) (M : XM yX8_letter cX8_letter 2 (some .int) d2 mc ms [.ref 0] L f PX) (hPX : ∀ E L' f', PX E L' f' → E = eIA) : AW yL_letter cL_letter 3 (some .int) [(0, 8, 11, 13)] d mc ms [.ref 0, .ref 35] L f (fun r L' f' => ∃ E, PX E L' f' ∧ r = some (.int (iI (exN E)))) := by
  refine AW.of (by decide +kernel) (by simp [Value.category]) (Nat.le_of_ble_eq_true rfl) (fun X C0 => ?_); have C := C0.C
  refine C.aload_n dL_letter_0 rfl ?_
  refine C.ic dL_letter_1 ?_
  refine C.aload_n dL_letter_2 rfl ?_
  skip
  refine C0.tryV M cw_X8_letter ml_L_7 im_X8_letter sl_X8_letter dL_letter_3 h0L h0f rfl rfl (by omega) (by omega) (by omega) (Nat.le_of_ble_eq_true rfl) rfl (fun E L1 f1 hR => ?_)
  obtain rfl := hPX _ _ _ hR
  refine ⟨11, ⟨by decide, by decide, _, (om_wsL_law0_r7 _ (List.mem_of_getElem? (i := 4) rfl)), Or.inl ⟨rfl, by decide, rfl⟩⟩, fun q => ?_⟩
  refine C.astore_n dL_letter_11 (by decide) rfl ?_
  refine C.ic dL_letter_12 ?_
  refine C.retI rfl (by first | rfl | (exact (iI_bool (by first | exact Or.inl rfl | exact Or.inr rfl | assumption)).1)) dL_letter_13 (by omega) (by omega) ⟨eIA, hR, rfl⟩
  skip
theorem wn_part {x : Int32} (hd : d2 + 1 ≤ d) (h0L : 0 ∈ L) (h0f : f 0 = .inr (10, fs)) (M : AM yX8_part cX8_part 2 (some .boolean) d2 mc ms [.ref 0, .int x] L f Po) (hPo : ∀ r L' f', Po r L' f' → (∃ z : Int, (z = 0 ∨ z = 1) ∧ r = some (.int (iI z))) ∧ L35 L' f') : AW yL_part cL_part 4 (some .int) [(0, 16, 19, 19), (0, 16, 22, 21)] d mc ms [.ref 0, .int x, .ref 35] L f (WpL Po) := by
  refine AW.of (by decide +kernel) (by simp [Value.category]) (Nat.le_of_ble_eq_true rfl) (fun X C0 => ?_); have C := C0.C
  refine C.aload_n dL_part_0 rfl ?_
  refine C.ic dL_part_1 ?_
  refine C.aload_n dL_part_2 rfl ?_
  refine C.iload_n dL_part_3 rfl ?_
  refine C.callV (M) cw_X8_part ml_L_15 im_X8_part sl_X8_part dL_part_4 h0L h0f rfl rfl (by omega) (by omega) (by omega) (Nat.le_of_ble_eq_true rfl) rfl (fun r4 L4 f4 hR4 => ?_)
  obtain ⟨⟨z, hz, rfl⟩, h35, g, hg⟩ := hPo _ _ _ hR4
  skip
  rcases hz with rfl | rfl
  · refine C.if_eqI (tgt := 14) dL_part_7 (by decide) (by decide) (fun hc7 => ?_) (fun hc7 => absurd hc7 (by decide))
    refine C.lconst dL_part_14 rfl ?_
    refine C.last0 dL_part_15 h35 hg ?_
    refine C.goto (tgt := 25) dL_part_16 (by decide) ?_
    refine C.ic dL_part_25 ?_
    refine C.retI rfl (by first | rfl | (exact (iI_bool (by first | exact Or.inl rfl | exact Or.inr rfl | assumption)).1)) dL_part_26 (by omega) (by omega) ⟨rfl, 0, _, _, hR4, rfl, rfl⟩
    skip
  · refine C.if_eqI (tgt := 14) dL_part_7 (by decide) (by decide) (fun hc7 => absurd hc7 (by decide)) (fun hc7 => ?_)
    refine C.lconst dL_part_10 rfl ?_
    refine C.goto (tgt := 15) dL_part_11 (by decide) ?_
    refine C.last0 dL_part_15 h35 hg ?_
    refine C.goto (tgt := 25) dL_part_16 (by decide) ?_
    refine C.ic dL_part_25 ?_
    refine C.retI rfl (by first | rfl | (exact (iI_bool (by first | exact Or.inl rfl | exact Or.inr rfl | assumption)).1)) dL_part_26 (by omega) (by omega) ⟨rfl, 1, _, _, hR4, rfl, rfl⟩
    skip
theorem wx_part {x : Int32} (hd : d2 + 1 ≤ d) (h0L : 0 ∈ L) (h0f : f 0 = .inr (10, fs)) (M : XM yX8_part cX8_part 2 (some .boolean) d2 mc ms [.ref 0, .int x] L f PX) (hPX : ∀ E L' f', PX E L' f' → E = eIS ∨ E = eIO) : AW yL_part cL_part 4 (some .int) [(0, 16, 19, 19), (0, 16, 22, 21)] d mc ms [.ref 0, .int x, .ref 35] L f (fun r L' f' => ∃ E, PX E L' f' ∧ r = some (.int (iI (exN E)))) := by
  refine AW.of (by decide +kernel) (by simp [Value.category]) (Nat.le_of_ble_eq_true rfl) (fun X C0 => ?_); have C := C0.C
  refine C.aload_n dL_part_0 rfl ?_
  refine C.ic dL_part_1 ?_
  refine C.aload_n dL_part_2 rfl ?_
  refine C.iload_n dL_part_3 rfl ?_
  skip
  refine C0.tryV M cw_X8_part ml_L_15 im_X8_part sl_X8_part dL_part_4 h0L h0f rfl rfl (by omega) (by omega) (by omega) (Nat.le_of_ble_eq_true rfl) rfl (fun E L1 f1 hR => ?_)
  rcases hPX _ _ _ hR with rfl | rfl
  · refine ⟨19, ⟨by decide, by decide, _, (om_wsL_law0_r26 _ (List.mem_of_getElem? (i := 5) rfl)), Or.inl ⟨rfl, by decide, rfl⟩⟩, fun q => ?_⟩
    refine C.astore_n dL_part_19 (by decide) rfl ?_
    refine C.ic dL_part_20 ?_
    refine C.retI rfl (by first | rfl | (exact (iI_bool (by first | exact Or.inl rfl | exact Or.inr rfl | assumption)).1)) dL_part_21 (by omega) (by omega) ⟨eIS, hR, rfl⟩
    skip
  · refine ⟨22, ⟨by decide, by decide, _, (om_wsL_law0_r26 _ (List.mem_of_getElem? (i := 5) rfl)), Or.inr ⟨by decide, ⟨by decide, by decide, _, (om_wsL_law0_r26 _ (List.mem_of_getElem? (i := 6) rfl)), Or.inl ⟨rfl, by decide, rfl⟩⟩⟩⟩, fun q => ?_⟩
    refine C.astore_n dL_part_22 (by decide) rfl ?_
    refine C.ic dL_part_23 ?_
    refine C.retI rfl (by first | rfl | (exact (iI_bool (by first | exact Or.inl rfl | exact Or.inr rfl | assumption)).1)) dL_part_24 (by omega) (by omega) ⟨eIO, hR, rfl⟩
    skip
theorem wn_melt {x : Int32} (hd : d2 + 1 ≤ d) (h0L : 0 ∈ L) (h0f : f 0 = .inr (10, fs)) (M : AM yX8_melt cX8_melt 2 (some .boolean) d2 mc ms [.ref 0, .int x] L f Po) (hPo : ∀ r L' f', Po r L' f' → (∃ z : Int, (z = 0 ∨ z = 1) ∧ r = some (.int (iI z))) ∧ L35 L' f') : AW yL_melt cL_melt 4 (some .int) [(0, 16, 19, 19), (0, 16, 22, 21)] d mc ms [.ref 0, .int x, .ref 35] L f (WpL Po) := by
  refine AW.of (by decide +kernel) (by simp [Value.category]) (Nat.le_of_ble_eq_true rfl) (fun X C0 => ?_); have C := C0.C
  refine C.aload_n dL_melt_0 rfl ?_
  refine C.ic dL_melt_1 ?_
  refine C.aload_n dL_melt_2 rfl ?_
  refine C.iload_n dL_melt_3 rfl ?_
  refine C.callV (M) cw_X8_melt ml_L_23 im_X8_melt sl_X8_melt dL_melt_4 h0L h0f rfl rfl (by omega) (by omega) (by omega) (Nat.le_of_ble_eq_true rfl) rfl (fun r4 L4 f4 hR4 => ?_)
  obtain ⟨⟨z, hz, rfl⟩, h35, g, hg⟩ := hPo _ _ _ hR4
  skip
  rcases hz with rfl | rfl
  · refine C.if_eqI (tgt := 14) dL_melt_7 (by decide) (by decide) (fun hc7 => ?_) (fun hc7 => absurd hc7 (by decide))
    refine C.lconst dL_melt_14 rfl ?_
    refine C.last0 dL_melt_15 h35 hg ?_
    refine C.goto (tgt := 25) dL_melt_16 (by decide) ?_
    refine C.ic dL_melt_25 ?_
    refine C.retI rfl (by first | rfl | (exact (iI_bool (by first | exact Or.inl rfl | exact Or.inr rfl | assumption)).1)) dL_melt_26 (by omega) (by omega) ⟨rfl, 0, _, _, hR4, rfl, rfl⟩
    skip
  · refine C.if_eqI (tgt := 14) dL_melt_7 (by decide) (by decide) (fun hc7 => absurd hc7 (by decide)) (fun hc7 => ?_)
    refine C.lconst dL_melt_10 rfl ?_
    refine C.goto (tgt := 15) dL_melt_11 (by decide) ?_
    refine C.last0 dL_melt_15 h35 hg ?_
    refine C.goto (tgt := 25) dL_melt_16 (by decide) ?_
    refine C.ic dL_melt_25 ?_
    refine C.retI rfl (by first | rfl | (exact (iI_bool (by first | exact Or.inl rfl | exact Or.inr rfl | assumption)).1)) dL_melt_26 (by omega) (by omega) ⟨rfl, 1, _, _, hR4, rfl, rfl⟩
    skip
theorem wx_melt {x : Int32} (hd : d2 + 1 ≤ d) (h0L : 0 ∈ L) (h0f : f 0 = .inr (10, fs)) (M : XM yX8_melt cX8_melt 2 (some .boolean) d2 mc ms [.ref 0, .int x] L f PX) (hPX : ∀ E L' f', PX E L' f' → E = eIS ∨ E = eIO) : AW yL_melt cL_melt 4 (some .int) [(0, 16, 19, 19), (0, 16, 22, 21)] d mc ms [.ref 0, .int x, .ref 35] L f (fun r L' f' => ∃ E, PX E L' f' ∧ r = some (.int (iI (exN E)))) := by
  refine AW.of (by decide +kernel) (by simp [Value.category]) (Nat.le_of_ble_eq_true rfl) (fun X C0 => ?_); have C := C0.C
  refine C.aload_n dL_melt_0 rfl ?_
  refine C.ic dL_melt_1 ?_
  refine C.aload_n dL_melt_2 rfl ?_
  refine C.iload_n dL_melt_3 rfl ?_
  skip
  refine C0.tryV M cw_X8_melt ml_L_23 im_X8_melt sl_X8_melt dL_melt_4 h0L h0f rfl rfl (by omega) (by omega) (by omega) (Nat.le_of_ble_eq_true rfl) rfl (fun E L1 f1 hR => ?_)
  rcases hPX _ _ _ hR with rfl | rfl
  · refine ⟨19, ⟨by decide, by decide, _, (om_wsL_law0_r26 _ (List.mem_of_getElem? (i := 5) rfl)), Or.inl ⟨rfl, by decide, rfl⟩⟩, fun q => ?_⟩
    refine C.astore_n dL_melt_19 (by decide) rfl ?_
    refine C.ic dL_melt_20 ?_
    refine C.retI rfl (by first | rfl | (exact (iI_bool (by first | exact Or.inl rfl | exact Or.inr rfl | assumption)).1)) dL_melt_21 (by omega) (by omega) ⟨eIS, hR, rfl⟩
    skip
  · refine ⟨22, ⟨by decide, by decide, _, (om_wsL_law0_r26 _ (List.mem_of_getElem? (i := 5) rfl)), Or.inr ⟨by decide, ⟨by decide, by decide, _, (om_wsL_law0_r26 _ (List.mem_of_getElem? (i := 6) rfl)), Or.inl ⟨rfl, by decide, rfl⟩⟩⟩⟩, fun q => ?_⟩
    refine C.astore_n dL_melt_22 (by decide) rfl ?_
    refine C.ic dL_melt_23 ?_
    refine C.retI rfl (by first | rfl | (exact (iI_bool (by first | exact Or.inl rfl | exact Or.inr rfl | assumption)).1)) dL_melt_24 (by omega) (by omega) ⟨eIO, hR, rfl⟩
    skip
theorem wn_turn {x : Int32} (hd : d2 + 1 ≤ d) (h0L : 0 ∈ L) (h0f : f 0 = .inr (10, fs)) (M : AM yX8_turn cX8_turn 2 (some .boolean) d2 mc ms [.ref 0, .int x] L f Po) (hPo : ∀ r L' f', Po r L' f' → (∃ z : Int, (z = 0 ∨ z = 1) ∧ r = some (.int (iI z))) ∧ L35 L' f') : AW yL_turn cL_turn 4 (some .int) [(0, 16, 19, 19), (0, 16, 22, 21)] d mc ms [.ref 0, .int x, .ref 35] L f (WpL Po) := by
  refine AW.of (by decide +kernel) (by simp [Value.category]) (Nat.le_of_ble_eq_true rfl) (fun X C0 => ?_); have C := C0.C
  refine C.aload_n dL_turn_0 rfl ?_
  refine C.ic dL_turn_1 ?_
  refine C.aload_n dL_turn_2 rfl ?_
  refine C.iload_n dL_turn_3 rfl ?_
  refine C.callV (M) cw_X8_turn ml_L_26 im_X8_turn sl_X8_turn dL_turn_4 h0L h0f rfl rfl (by omega) (by omega) (by omega) (Nat.le_of_ble_eq_true rfl) rfl (fun r4 L4 f4 hR4 => ?_)
  obtain ⟨⟨z, hz, rfl⟩, h35, g, hg⟩ := hPo _ _ _ hR4
  skip
  rcases hz with rfl | rfl
  · refine C.if_eqI (tgt := 14) dL_turn_7 (by decide) (by decide) (fun hc7 => ?_) (fun hc7 => absurd hc7 (by decide))
    refine C.lconst dL_turn_14 rfl ?_
    refine C.last0 dL_turn_15 h35 hg ?_
    refine C.goto (tgt := 25) dL_turn_16 (by decide) ?_
    refine C.ic dL_turn_25 ?_
    refine C.retI rfl (by first | rfl | (exact (iI_bool (by first | exact Or.inl rfl | exact Or.inr rfl | assumption)).1)) dL_turn_26 (by omega) (by omega) ⟨rfl, 0, _, _, hR4, rfl, rfl⟩
    skip
  · refine C.if_eqI (tgt := 14) dL_turn_7 (by decide) (by decide) (fun hc7 => absurd hc7 (by decide)) (fun hc7 => ?_)
    refine C.lconst dL_turn_10 rfl ?_
    refine C.goto (tgt := 15) dL_turn_11 (by decide) ?_
    refine C.last0 dL_turn_15 h35 hg ?_
    refine C.goto (tgt := 25) dL_turn_16 (by decide) ?_
    refine C.ic dL_turn_25 ?_
    refine C.retI rfl (by first | rfl | (exact (iI_bool (by first | exact Or.inl rfl | exact Or.inr rfl | assumption)).1)) dL_turn_26 (by omega) (by omega) ⟨rfl, 1, _, _, hR4, rfl, rfl⟩
    skip
theorem wx_turn {x : Int32} (hd : d2 + 1 ≤ d) (h0L : 0 ∈ L) (h0f : f 0 = .inr (10, fs)) (M : XM yX8_turn cX8_turn 2 (some .boolean) d2 mc ms [.ref 0, .int x] L f PX) (hPX : ∀ E L' f', PX E L' f' → E = eIS ∨ E = eIO) : AW yL_turn cL_turn 4 (some .int) [(0, 16, 19, 19), (0, 16, 22, 21)] d mc ms [.ref 0, .int x, .ref 35] L f (fun r L' f' => ∃ E, PX E L' f' ∧ r = some (.int (iI (exN E)))) := by
  refine AW.of (by decide +kernel) (by simp [Value.category]) (Nat.le_of_ble_eq_true rfl) (fun X C0 => ?_); have C := C0.C
  refine C.aload_n dL_turn_0 rfl ?_
  refine C.ic dL_turn_1 ?_
  refine C.aload_n dL_turn_2 rfl ?_
  refine C.iload_n dL_turn_3 rfl ?_
  skip
  refine C0.tryV M cw_X8_turn ml_L_26 im_X8_turn sl_X8_turn dL_turn_4 h0L h0f rfl rfl (by omega) (by omega) (by omega) (Nat.le_of_ble_eq_true rfl) rfl (fun E L1 f1 hR => ?_)
  rcases hPX _ _ _ hR with rfl | rfl
  · refine ⟨19, ⟨by decide, by decide, _, (om_wsL_law0_r26 _ (List.mem_of_getElem? (i := 5) rfl)), Or.inl ⟨rfl, by decide, rfl⟩⟩, fun q => ?_⟩
    refine C.astore_n dL_turn_19 (by decide) rfl ?_
    refine C.ic dL_turn_20 ?_
    refine C.retI rfl (by first | rfl | (exact (iI_bool (by first | exact Or.inl rfl | exact Or.inr rfl | assumption)).1)) dL_turn_21 (by omega) (by omega) ⟨eIS, hR, rfl⟩
    skip
  · refine ⟨22, ⟨by decide, by decide, _, (om_wsL_law0_r26 _ (List.mem_of_getElem? (i := 5) rfl)), Or.inr ⟨by decide, ⟨by decide, by decide, _, (om_wsL_law0_r26 _ (List.mem_of_getElem? (i := 6) rfl)), Or.inl ⟨rfl, by decide, rfl⟩⟩⟩⟩, fun q => ?_⟩
    refine C.astore_n dL_turn_22 (by decide) rfl ?_
    refine C.ic dL_turn_23 ?_
    refine C.retI rfl (by first | rfl | (exact (iI_bool (by first | exact Or.inl rfl | exact Or.inr rfl | assumption)).1)) dL_turn_24 (by omega) (by omega) ⟨eIO, hR, rfl⟩
    skip
theorem wn_ease {x : Int32} (hd : d2 + 1 ≤ d) (h0L : 0 ∈ L) (h0f : f 0 = .inr (10, fs)) (M : AM yX8_ease cX8_ease 2 (some .boolean) d2 mc ms [.ref 0, .int x] L f Po) (hPo : ∀ r L' f', Po r L' f' → (∃ z : Int, (z = 0 ∨ z = 1) ∧ r = some (.int (iI z))) ∧ L35 L' f') : AW yL_ease cL_ease 4 (some .int) [(0, 16, 19, 19), (0, 16, 22, 21)] d mc ms [.ref 0, .int x, .ref 35] L f (WpL Po) := by
  refine AW.of (by decide +kernel) (by simp [Value.category]) (Nat.le_of_ble_eq_true rfl) (fun X C0 => ?_); have C := C0.C
  refine C.aload_n dL_ease_0 rfl ?_
  refine C.ic dL_ease_1 ?_
  refine C.aload_n dL_ease_2 rfl ?_
  refine C.iload_n dL_ease_3 rfl ?_
  refine C.callV (M) cw_X8_ease ml_L_29 im_X8_ease sl_X8_ease dL_ease_4 h0L h0f rfl rfl (by omega) (by omega) (by omega) (Nat.le_of_ble_eq_true rfl) rfl (fun r4 L4 f4 hR4 => ?_)
  obtain ⟨⟨z, hz, rfl⟩, h35, g, hg⟩ := hPo _ _ _ hR4
  skip
  rcases hz with rfl | rfl
  · refine C.if_eqI (tgt := 14) dL_ease_7 (by decide) (by decide) (fun hc7 => ?_) (fun hc7 => absurd hc7 (by decide))
    refine C.lconst dL_ease_14 rfl ?_
    refine C.last0 dL_ease_15 h35 hg ?_
    refine C.goto (tgt := 25) dL_ease_16 (by decide) ?_
    refine C.ic dL_ease_25 ?_
    refine C.retI rfl (by first | rfl | (exact (iI_bool (by first | exact Or.inl rfl | exact Or.inr rfl | assumption)).1)) dL_ease_26 (by omega) (by omega) ⟨rfl, 0, _, _, hR4, rfl, rfl⟩
    skip
  · refine C.if_eqI (tgt := 14) dL_ease_7 (by decide) (by decide) (fun hc7 => absurd hc7 (by decide)) (fun hc7 => ?_)
    refine C.lconst dL_ease_10 rfl ?_
    refine C.goto (tgt := 15) dL_ease_11 (by decide) ?_
    refine C.last0 dL_ease_15 h35 hg ?_
    refine C.goto (tgt := 25) dL_ease_16 (by decide) ?_
    refine C.ic dL_ease_25 ?_
    refine C.retI rfl (by first | rfl | (exact (iI_bool (by first | exact Or.inl rfl | exact Or.inr rfl | assumption)).1)) dL_ease_26 (by omega) (by omega) ⟨rfl, 1, _, _, hR4, rfl, rfl⟩
    skip
theorem wx_ease {x : Int32} (hd : d2 + 1 ≤ d) (h0L : 0 ∈ L) (h0f : f 0 = .inr (10, fs)) (M : XM yX8_ease cX8_ease 2 (some .boolean) d2 mc ms [.ref 0, .int x] L f PX) (hPX : ∀ E L' f', PX E L' f' → E = eIS ∨ E = eIO) : AW yL_ease cL_ease 4 (some .int) [(0, 16, 19, 19), (0, 16, 22, 21)] d mc ms [.ref 0, .int x, .ref 35] L f (fun r L' f' => ∃ E, PX E L' f' ∧ r = some (.int (iI (exN E)))) := by
  refine AW.of (by decide +kernel) (by simp [Value.category]) (Nat.le_of_ble_eq_true rfl) (fun X C0 => ?_); have C := C0.C
  refine C.aload_n dL_ease_0 rfl ?_
  refine C.ic dL_ease_1 ?_
  refine C.aload_n dL_ease_2 rfl ?_
  refine C.iload_n dL_ease_3 rfl ?_
  skip
  refine C0.tryV M cw_X8_ease ml_L_29 im_X8_ease sl_X8_ease dL_ease_4 h0L h0f rfl rfl (by omega) (by omega) (by omega) (Nat.le_of_ble_eq_true rfl) rfl (fun E L1 f1 hR => ?_)
  rcases hPX _ _ _ hR with rfl | rfl
  · refine ⟨19, ⟨by decide, by decide, _, (om_wsL_law0_r26 _ (List.mem_of_getElem? (i := 5) rfl)), Or.inl ⟨rfl, by decide, rfl⟩⟩, fun q => ?_⟩
    refine C.astore_n dL_ease_19 (by decide) rfl ?_
    refine C.ic dL_ease_20 ?_
    refine C.retI rfl (by first | rfl | (exact (iI_bool (by first | exact Or.inl rfl | exact Or.inr rfl | assumption)).1)) dL_ease_21 (by omega) (by omega) ⟨eIS, hR, rfl⟩
    skip
  · refine ⟨22, ⟨by decide, by decide, _, (om_wsL_law0_r26 _ (List.mem_of_getElem? (i := 5) rfl)), Or.inr ⟨by decide, ⟨by decide, by decide, _, (om_wsL_law0_r26 _ (List.mem_of_getElem? (i := 6) rfl)), Or.inl ⟨rfl, by decide, rfl⟩⟩⟩⟩, fun q => ?_⟩
    refine C.astore_n dL_ease_22 (by decide) rfl ?_
    refine C.ic dL_ease_23 ?_
    refine C.retI rfl (by first | rfl | (exact (iI_bool (by first | exact Or.inl rfl | exact Or.inr rfl | assumption)).1)) dL_ease_24 (by omega) (by omega) ⟨eIO, hR, rfl⟩
    skip
theorem wn_plainest (hd : d2 + 1 ≤ d) (h0L : 0 ∈ L) (h0f : f 0 = .inr (10, fs)) (M : AM yX8_plainest cX8_plainest 1 (some .int) d2 mc ms [.ref 0] L f Po) (hPo : ∀ r L' f', Po r L' f' → (∃ z : Int, r = some (.int (iI z))) ∧ L35 L' f') : AW yL_plainest cL_plainest 3 (some .int) [(0, 8, 11, 19)] d mc ms [.ref 0, .ref 35] L f (WpL Po) := by
  refine AW.of (by decide +kernel) (by simp [Value.category]) (Nat.le_of_ble_eq_true rfl) (fun X C0 => ?_); have C := C0.C
  refine C.aload_n dL_plainest_0 rfl ?_
  refine C.ic dL_plainest_1 ?_
  refine C.aload_n dL_plainest_2 rfl ?_
  refine C.callV (M) cw_X8_plainest ml_L_32 im_X8_plainest sl_X8_plainest dL_plainest_3 h0L h0f rfl rfl (by omega) (by omega) (by omega) (Nat.le_of_ble_eq_true rfl) rfl (fun r3 L3 f3 hR3 => ?_)
  obtain ⟨⟨z, rfl⟩, h35, g, hg⟩ := hPo _ _ _ hR3
  refine C.i2l dL_plainest_6 ?_
  refine C.last0 dL_plainest_7 h35 hg ?_
  refine C.goto (tgt := 14) dL_plainest_8 (by decide) ?_
  refine C.ic dL_plainest_14 ?_
  refine C.retI rfl (by first | rfl | (exact (iI_bool (by first | exact Or.inl rfl | exact Or.inr rfl | assumption)).1)) dL_plainest_15 (by omega) (by omega) ⟨rfl, z, _, _, hR3, rfl, rfl⟩
  skip
theorem wx_plainest (hd : d2 + 1 ≤ d) (h0L : 0 ∈ L) (h0f : f 0 = .inr (10, fs)) (M : XM yX8_plainest cX8_plainest 1 (some .int) d2 mc ms [.ref 0] L f PX) (hPX : ∀ E L' f', PX E L' f' → E = eIS) : AW yL_plainest cL_plainest 3 (some .int) [(0, 8, 11, 19)] d mc ms [.ref 0, .ref 35] L f (fun r L' f' => ∃ E, PX E L' f' ∧ r = some (.int (iI (exN E)))) := by
  refine AW.of (by decide +kernel) (by simp [Value.category]) (Nat.le_of_ble_eq_true rfl) (fun X C0 => ?_); have C := C0.C
  refine C.aload_n dL_plainest_0 rfl ?_
  refine C.ic dL_plainest_1 ?_
  refine C.aload_n dL_plainest_2 rfl ?_
  skip
  refine C0.tryV M cw_X8_plainest ml_L_32 im_X8_plainest sl_X8_plainest dL_plainest_3 h0L h0f rfl rfl (by omega) (by omega) (by omega) (Nat.le_of_ble_eq_true rfl) rfl (fun E L1 f1 hR => ?_)
  obtain rfl := hPX _ _ _ hR
  refine ⟨11, ⟨by decide, by decide, _, (om_wsL_law0_r26 _ (List.mem_of_getElem? (i := 5) rfl)), Or.inl ⟨rfl, by decide, rfl⟩⟩, fun q => ?_⟩
  refine C.astore_n dL_plainest_11 (by decide) rfl ?_
  refine C.ic dL_plainest_12 ?_
  refine C.retI rfl (by first | rfl | (exact (iI_bool (by first | exact Or.inl rfl | exact Or.inr rfl | assumption)).1)) dL_plainest_13 (by omega) (by omega) ⟨eIS, hR, rfl⟩
  skip
theorem wn_cost {x : Int32} (hd : d2 + 1 ≤ d) (h0L : 0 ∈ L) (h0f : f 0 = .inr (10, fs)) (M : AM yX8_cost cX8_cost 2 (some .int) d2 mc ms [.ref 0, .int x] L f Po) (hPo : ∀ r L' f', Po r L' f' → (∃ z : Int, r = some (.int (iI z))) ∧ L35 L' f') : AW yL_cost cL_cost 4 (some .int) [(0, 9, 12, 19)] d mc ms [.ref 0, .int x, .ref 35] L f (WpL Po) := by
  refine AW.of (by decide +kernel) (by simp [Value.category]) (Nat.le_of_ble_eq_true rfl) (fun X C0 => ?_); have C := C0.C
  refine C.aload_n dL_cost_0 rfl ?_
  refine C.ic dL_cost_1 ?_
  refine C.aload_n dL_cost_2 rfl ?_
  refine C.iload_n dL_cost_3 rfl ?_
  refine C.callV (M) cw_X8_cost ml_L_38 im_X8_cost sl_X8_cost dL_cost_4 h0L h0f rfl rfl (by omega) (by omega) (by omega) (Nat.le_of_ble_eq_true rfl) rfl (fun r4 L4 f4 hR4 => ?_)
  obtain ⟨⟨z, rfl⟩, h35, g, hg⟩ := hPo _ _ _ hR4
  refine C.i2l dL_cost_7 ?_
  refine C.last0 dL_cost_8 h35 hg ?_
  refine C.goto (tgt := 15) dL_cost_9 (by decide) ?_
  refine C.ic dL_cost_15 ?_
  refine C.retI rfl (by first | rfl | (exact (iI_bool (by first | exact Or.inl rfl | exact Or.inr rfl | assumption)).1)) dL_cost_16 (by omega) (by omega) ⟨rfl, z, _, _, hR4, rfl, rfl⟩
  skip
theorem wx_cost {x : Int32} (hd : d2 + 1 ≤ d) (h0L : 0 ∈ L) (h0f : f 0 = .inr (10, fs)) (M : XM yX8_cost cX8_cost 2 (some .int) d2 mc ms [.ref 0, .int x] L f PX) (hPX : ∀ E L' f', PX E L' f' → E = eIS) : AW yL_cost cL_cost 4 (some .int) [(0, 9, 12, 19)] d mc ms [.ref 0, .int x, .ref 35] L f (fun r L' f' => ∃ E, PX E L' f' ∧ r = some (.int (iI (exN E)))) := by
  refine AW.of (by decide +kernel) (by simp [Value.category]) (Nat.le_of_ble_eq_true rfl) (fun X C0 => ?_); have C := C0.C
  refine C.aload_n dL_cost_0 rfl ?_
  refine C.ic dL_cost_1 ?_
  refine C.aload_n dL_cost_2 rfl ?_
  refine C.iload_n dL_cost_3 rfl ?_
  skip
  refine C0.tryV M cw_X8_cost ml_L_38 im_X8_cost sl_X8_cost dL_cost_4 h0L h0f rfl rfl (by omega) (by omega) (by omega) (Nat.le_of_ble_eq_true rfl) rfl (fun E L1 f1 hR => ?_)
  obtain rfl := hPX _ _ _ hR
  refine ⟨12, ⟨by decide, by decide, _, (om_wsL_law0_r26 _ (List.mem_of_getElem? (i := 5) rfl)), Or.inl ⟨rfl, by decide, rfl⟩⟩, fun q => ?_⟩
  refine C.astore_n dL_cost_12 (by decide) rfl ?_
  refine C.ic dL_cost_13 ?_
  refine C.retI rfl (by first | rfl | (exact (iI_bool (by first | exact Or.inl rfl | exact Or.inr rfl | assumption)).1)) dL_cost_14 (by omega) (by omega) ⟨eIS, hR, rfl⟩
  skip
theorem wn_look {x y : Int32} (hd : d2 + 1 ≤ d) (h0L : 0 ∈ L) (h0f : f 0 = .inr (10, fs)) (M : AM yX8_look cX8_look 3 (some .int) d2 mc ms [.ref 0, .int x, .int y] L f Po) (hPo : ∀ r L' f', Po r L' f' → (∃ z : Int, r = some (.int (iI z))) ∧ L35 L' f') : AW yL_look cL_look 5 (some .int) [(0, 10, 13, 19), (0, 10, 17, 21), (0, 10, 21, 46)] d mc ms [.ref 0, .int x, .int y, .ref 35] L f (WpL Po) := by
  refine AW.of (by decide +kernel) (by simp [Value.category]) (Nat.le_of_ble_eq_true rfl) (fun X C0 => ?_); have C := C0.C
  refine C.aload_n dL_look_0 rfl ?_
  refine C.ic dL_look_1 ?_
  refine C.aload_n dL_look_2 rfl ?_
  refine C.iload_n dL_look_3 rfl ?_
  refine C.iload_n dL_look_4 rfl ?_
  refine C.callV (M) cw_X8_look ml_L_42 im_X8_look sl_X8_look dL_look_5 h0L h0f rfl rfl (by omega) (by omega) (by omega) (Nat.le_of_ble_eq_true rfl) rfl (fun r5 L5 f5 hR5 => ?_)
  obtain ⟨⟨z, rfl⟩, h35, g, hg⟩ := hPo _ _ _ hR5
  refine C.i2l dL_look_8 ?_
  refine C.last0 dL_look_9 h35 hg ?_
  refine C.goto (tgt := 25) dL_look_10 (by decide) ?_
  refine C.ic dL_look_25 ?_
  refine C.retI rfl (by first | rfl | (exact (iI_bool (by first | exact Or.inl rfl | exact Or.inr rfl | assumption)).1)) dL_look_26 (by omega) (by omega) ⟨rfl, z, _, _, hR5, rfl, rfl⟩
  skip
theorem wx_look {x y : Int32} (hd : d2 + 1 ≤ d) (h0L : 0 ∈ L) (h0f : f 0 = .inr (10, fs)) (M : XM yX8_look cX8_look 3 (some .int) d2 mc ms [.ref 0, .int x, .int y] L f PX) (hPX : ∀ E L' f', PX E L' f' → E = eIS ∨ E = eIO ∨ E = eNE) : AW yL_look cL_look 5 (some .int) [(0, 10, 13, 19), (0, 10, 17, 21), (0, 10, 21, 46)] d mc ms [.ref 0, .int x, .int y, .ref 35] L f (fun r L' f' => ∃ E, PX E L' f' ∧ r = some (.int (iI (exN E)))) := by
  refine AW.of (by decide +kernel) (by simp [Value.category]) (Nat.le_of_ble_eq_true rfl) (fun X C0 => ?_); have C := C0.C
  refine C.aload_n dL_look_0 rfl ?_
  refine C.ic dL_look_1 ?_
  refine C.aload_n dL_look_2 rfl ?_
  refine C.iload_n dL_look_3 rfl ?_
  refine C.iload_n dL_look_4 rfl ?_
  skip
  refine C0.tryV M cw_X8_look ml_L_42 im_X8_look sl_X8_look dL_look_5 h0L h0f rfl rfl (by omega) (by omega) (by omega) (Nat.le_of_ble_eq_true rfl) rfl (fun E L1 f1 hR => ?_)
  rcases hPX _ _ _ hR with rfl | rfl | rfl
  · refine ⟨13, ⟨by decide, by decide, _, (om_wsL_law0_r26 _ (List.mem_of_getElem? (i := 5) rfl)), Or.inl ⟨rfl, by decide, rfl⟩⟩, fun q => ?_⟩
    refine C.astore dL_look_13 (by decide) rfl ?_
    refine C.ic dL_look_15 ?_
    refine C.retI rfl (by first | rfl | (exact (iI_bool (by first | exact Or.inl rfl | exact Or.inr rfl | assumption)).1)) dL_look_16 (by omega) (by omega) ⟨eIS, hR, rfl⟩
    skip
  · refine ⟨17, ⟨by decide, by decide, _, (om_wsL_law0_r26 _ (List.mem_of_getElem? (i := 5) rfl)), Or.inr ⟨by decide, ⟨by decide, by decide, _, (om_wsL_law0_r26 _ (List.mem_of_getElem? (i := 6) rfl)), Or.inl ⟨rfl, by decide, rfl⟩⟩⟩⟩, fun q => ?_⟩
    refine C.astore dL_look_17 (by decide) rfl ?_
    refine C.ic dL_look_19 ?_
    refine C.retI rfl (by first | rfl | (exact (iI_bool (by first | exact Or.inl rfl | exact Or.inr rfl | assumption)).1)) dL_look_20 (by omega) (by omega) ⟨eIO, hR, rfl⟩
    skip
  · refine ⟨21, ⟨by decide, by decide, _, (om_wsL_law0_r26 _ (List.mem_of_getElem? (i := 5) rfl)), Or.inr ⟨by decide, ⟨by decide, by decide, _, (om_wsL_law0_r26 _ (List.mem_of_getElem? (i := 6) rfl)), Or.inr ⟨by decide, ⟨by decide, by decide, _, (om_wsL_law0_r39 _ (List.mem_of_getElem? (i := 22) rfl)), Or.inl ⟨rfl, by decide, rfl⟩⟩⟩⟩⟩⟩, fun q => ?_⟩
    refine C.astore dL_look_21 (by decide) rfl ?_
    refine C.ic dL_look_23 ?_
    refine C.retI rfl (by first | rfl | (exact (iI_bool (by first | exact Or.inl rfl | exact Or.inr rfl | assumption)).1)) dL_look_24 (by omega) (by omega) ⟨eNE, hR, rfl⟩
    skip
theorem wn_same (hd : d2 + 1 ≤ d) (h0L : 0 ∈ L) (h0f : f 0 = .inr (10, fs)) (M : AM yX8_same cX8_same 1 (some .boolean) d2 mc ms [.ref 0] L f Po) (hPo : ∀ r L' f', Po r L' f' → (∃ z : Int, (z = 0 ∨ z = 1) ∧ r = some (.int (iI z))) ∧ L35 L' f') : AW yL_same cL_same 3 (some .int) [(0, 15, 18, 19)] d mc ms [.ref 0, .ref 35] L f (WpL Po) := by
  refine AW.of (by decide +kernel) (by simp [Value.category]) (Nat.le_of_ble_eq_true rfl) (fun X C0 => ?_); have C := C0.C
  refine C.aload_n dL_same_0 rfl ?_
  refine C.ic dL_same_1 ?_
  refine C.aload_n dL_same_2 rfl ?_
  refine C.callV (M) cw_X8_same ml_L_48 im_X8_same sl_X8_same dL_same_3 h0L h0f rfl rfl (by omega) (by omega) (by omega) (Nat.le_of_ble_eq_true rfl) rfl (fun r3 L3 f3 hR3 => ?_)
  obtain ⟨⟨z, hz, rfl⟩, h35, g, hg⟩ := hPo _ _ _ hR3
  skip
  rcases hz with rfl | rfl
  · refine C.if_eqI (tgt := 13) dL_same_6 (by decide) (by decide) (fun hc6 => ?_) (fun hc6 => absurd hc6 (by decide))
    refine C.lconst dL_same_13 rfl ?_
    refine C.last0 dL_same_14 h35 hg ?_
    refine C.goto (tgt := 21) dL_same_15 (by decide) ?_
    refine C.ic dL_same_21 ?_
    refine C.retI rfl (by first | rfl | (exact (iI_bool (by first | exact Or.inl rfl | exact Or.inr rfl | assumption)).1)) dL_same_22 (by omega) (by omega) ⟨rfl, 0, _, _, hR3, rfl, rfl⟩
    skip
  · refine C.if_eqI (tgt := 13) dL_same_6 (by decide) (by decide) (fun hc6 => absurd hc6 (by decide)) (fun hc6 => ?_)
    refine C.lconst dL_same_9 rfl ?_
    refine C.goto (tgt := 14) dL_same_10 (by decide) ?_
    refine C.last0 dL_same_14 h35 hg ?_
    refine C.goto (tgt := 21) dL_same_15 (by decide) ?_
    refine C.ic dL_same_21 ?_
    refine C.retI rfl (by first | rfl | (exact (iI_bool (by first | exact Or.inl rfl | exact Or.inr rfl | assumption)).1)) dL_same_22 (by omega) (by omega) ⟨rfl, 1, _, _, hR3, rfl, rfl⟩
    skip
theorem wx_same (hd : d2 + 1 ≤ d) (h0L : 0 ∈ L) (h0f : f 0 = .inr (10, fs)) (M : XM yX8_same cX8_same 1 (some .boolean) d2 mc ms [.ref 0] L f PX) (hPX : ∀ E L' f', PX E L' f' → E = eIS) : AW yL_same cL_same 3 (some .int) [(0, 15, 18, 19)] d mc ms [.ref 0, .ref 35] L f (fun r L' f' => ∃ E, PX E L' f' ∧ r = some (.int (iI (exN E)))) := by
  refine AW.of (by decide +kernel) (by simp [Value.category]) (Nat.le_of_ble_eq_true rfl) (fun X C0 => ?_); have C := C0.C
  refine C.aload_n dL_same_0 rfl ?_
  refine C.ic dL_same_1 ?_
  refine C.aload_n dL_same_2 rfl ?_
  skip
  refine C0.tryV M cw_X8_same ml_L_48 im_X8_same sl_X8_same dL_same_3 h0L h0f rfl rfl (by omega) (by omega) (by omega) (Nat.le_of_ble_eq_true rfl) rfl (fun E L1 f1 hR => ?_)
  obtain rfl := hPX _ _ _ hR
  refine ⟨18, ⟨by decide, by decide, _, (om_wsL_law0_r26 _ (List.mem_of_getElem? (i := 5) rfl)), Or.inl ⟨rfl, by decide, rfl⟩⟩, fun q => ?_⟩
  refine C.astore_n dL_same_18 (by decide) rfl ?_
  refine C.ic dL_same_19 ?_
  refine C.retI rfl (by first | rfl | (exact (iI_bool (by first | exact Or.inl rfl | exact Or.inr rfl | assumption)).1)) dL_same_20 (by omega) (by omega) ⟨eIS, hR, rfl⟩
  skip
theorem wn_write (hd : d2 + 1 ≤ d) (h0L : 0 ∈ L) (h0f : f 0 = .inr (10, fs)) (M : AM yX8_write cX8_write 1 (some .int) d2 mc ms [.ref 0] L f Po) (hPo : ∀ r L' f', Po r L' f' → (∃ z : Int, r = some (.int (iI z))) ∧ L35 L' f') : AW yL_write cL_write 3 (some .int) [(0, 8, 11, 19)] d mc ms [.ref 0, .ref 35] L f (WpL Po) := by
  refine AW.of (by decide +kernel) (by simp [Value.category]) (Nat.le_of_ble_eq_true rfl) (fun X C0 => ?_); have C := C0.C
  refine C.aload_n dL_write_0 rfl ?_
  refine C.ic dL_write_1 ?_
  refine C.aload_n dL_write_2 rfl ?_
  refine C.callV (M) cw_X8_write ml_L_52 im_X8_write sl_X8_write dL_write_3 h0L h0f rfl rfl (by omega) (by omega) (by omega) (Nat.le_of_ble_eq_true rfl) rfl (fun r3 L3 f3 hR3 => ?_)
  obtain ⟨⟨z, rfl⟩, h35, g, hg⟩ := hPo _ _ _ hR3
  refine C.i2l dL_write_6 ?_
  refine C.last0 dL_write_7 h35 hg ?_
  refine C.goto (tgt := 14) dL_write_8 (by decide) ?_
  refine C.ic dL_write_14 ?_
  refine C.retI rfl (by first | rfl | (exact (iI_bool (by first | exact Or.inl rfl | exact Or.inr rfl | assumption)).1)) dL_write_15 (by omega) (by omega) ⟨rfl, z, _, _, hR3, rfl, rfl⟩
  skip
theorem wx_write (hd : d2 + 1 ≤ d) (h0L : 0 ∈ L) (h0f : f 0 = .inr (10, fs)) (M : XM yX8_write cX8_write 1 (some .int) d2 mc ms [.ref 0] L f PX) (hPX : ∀ E L' f', PX E L' f' → E = eIS) : AW yL_write cL_write 3 (some .int) [(0, 8, 11, 19)] d mc ms [.ref 0, .ref 35] L f (fun r L' f' => ∃ E, PX E L' f' ∧ r = some (.int (iI (exN E)))) := by
  refine AW.of (by decide +kernel) (by simp [Value.category]) (Nat.le_of_ble_eq_true rfl) (fun X C0 => ?_); have C := C0.C
  refine C.aload_n dL_write_0 rfl ?_
  refine C.ic dL_write_1 ?_
  refine C.aload_n dL_write_2 rfl ?_
  skip
  refine C0.tryV M cw_X8_write ml_L_52 im_X8_write sl_X8_write dL_write_3 h0L h0f rfl rfl (by omega) (by omega) (by omega) (Nat.le_of_ble_eq_true rfl) rfl (fun E L1 f1 hR => ?_)
  obtain rfl := hPX _ _ _ hR
  refine ⟨11, ⟨by decide, by decide, _, (om_wsL_law0_r26 _ (List.mem_of_getElem? (i := 5) rfl)), Or.inl ⟨rfl, by decide, rfl⟩⟩, fun q => ?_⟩
  refine C.astore_n dL_write_11 (by decide) rfl ?_
  refine C.ic dL_write_12 ?_
  refine C.retI rfl (by first | rfl | (exact (iI_bool (by first | exact Or.inl rfl | exact Or.inr rfl | assumption)).1)) dL_write_13 (by omega) (by omega) ⟨eIS, hR, rfl⟩
  skip
theorem wn_ask {x y z w : Int32} (hd : d2 + 1 ≤ d) (h0L : 0 ∈ L) (h0f : f 0 = .inr (10, fs)) (M : AM yX8_ask cX8_ask 5 (some .int) d2 mc ms [.ref 0, .int x, .int y, .int z, .int w] L f Po) (hPo : ∀ r L' f', Po r L' f' → (∃ z : Int, r = some (.int (iI z))) ∧ L35 L' f') : AW yL_ask cL_ask 7 (some .int) [(0, 14, 17, 19)] d mc ms [.ref 0, .int x, .int y, .int z, .int w, .ref 35] L f (WpL Po) := by
  refine AW.of (by decide +kernel) (by simp [Value.category]) (Nat.le_of_ble_eq_true rfl) (fun X C0 => ?_); have C := C0.C
  refine C.aload dL_ask_0 rfl ?_
  refine C.ic dL_ask_2 ?_
  refine C.aload_n dL_ask_3 rfl ?_
  refine C.iload_n dL_ask_4 rfl ?_
  refine C.iload_n dL_ask_5 rfl ?_
  refine C.iload_n dL_ask_6 rfl ?_
  refine C.iload dL_ask_7 rfl ?_
  refine C.callV (M) cw_X8_ask ml_L_55 im_X8_ask sl_X8_ask dL_ask_9 h0L h0f rfl rfl (by omega) (by omega) (by omega) (Nat.le_of_ble_eq_true rfl) rfl (fun r9 L9 f9 hR9 => ?_)
  obtain ⟨⟨z, rfl⟩, h35, g, hg⟩ := hPo _ _ _ hR9
  refine C.i2l dL_ask_12 ?_
  refine C.last0 dL_ask_13 h35 hg ?_
  refine C.goto (tgt := 21) dL_ask_14 (by decide) ?_
  refine C.ic dL_ask_21 ?_
  refine C.retI rfl (by first | rfl | (exact (iI_bool (by first | exact Or.inl rfl | exact Or.inr rfl | assumption)).1)) dL_ask_22 (by omega) (by omega) ⟨rfl, z, _, _, hR9, rfl, rfl⟩
  skip
theorem wx_ask {x y z w : Int32} (hd : d2 + 1 ≤ d) (h0L : 0 ∈ L) (h0f : f 0 = .inr (10, fs)) (M : XM yX8_ask cX8_ask 5 (some .int) d2 mc ms [.ref 0, .int x, .int y, .int z, .int w] L f PX) (hPX : ∀ E L' f', PX E L' f' → E = eIS) : AW yL_ask cL_ask 7 (some .int) [(0, 14, 17, 19)] d mc ms [.ref 0, .int x, .int y, .int z, .int w, .ref 35] L f (fun r L' f' => ∃ E, PX E L' f' ∧ r = some (.int (iI (exN E)))) := by
  refine AW.of (by decide +kernel) (by simp [Value.category]) (Nat.le_of_ble_eq_true rfl) (fun X C0 => ?_); have C := C0.C
  refine C.aload dL_ask_0 rfl ?_
  refine C.ic dL_ask_2 ?_
  refine C.aload_n dL_ask_3 rfl ?_
  refine C.iload_n dL_ask_4 rfl ?_
  refine C.iload_n dL_ask_5 rfl ?_
  refine C.iload_n dL_ask_6 rfl ?_
  refine C.iload dL_ask_7 rfl ?_
  skip
  refine C0.tryV M cw_X8_ask ml_L_55 im_X8_ask sl_X8_ask dL_ask_9 h0L h0f rfl rfl (by omega) (by omega) (by omega) (Nat.le_of_ble_eq_true rfl) rfl (fun E L1 f1 hR => ?_)
  obtain rfl := hPX _ _ _ hR
  refine ⟨17, ⟨by decide, by decide, _, (om_wsL_law0_r26 _ (List.mem_of_getElem? (i := 5) rfl)), Or.inl ⟨rfl, by decide, rfl⟩⟩, fun q => ?_⟩
  refine C.astore dL_ask_17 (by decide) rfl ?_
  refine C.ic dL_ask_19 ?_
  refine C.retI rfl (by first | rfl | (exact (iI_bool (by first | exact Or.inl rfl | exact Or.inr rfl | assumption)).1)) dL_ask_20 (by omega) (by omega) ⟨eIS, hR, rfl⟩
  skip
theorem wn_days {x y z : Int32} (hd : d2 + 1 ≤ d) (h0L : 0 ∈ L) (h0f : f 0 = .inr (10, fs)) (M : AM yX8_days cX8_days 4 (some .int) d2 mc ms [.ref 0, .int x, .int y, .int z] L f Po) (hPo : ∀ r L' f', Po r L' f' → (∃ z : Int, r = some (.int (iI z))) ∧ L35 L' f') : AW yL_days cL_days 6 (some .int) [(0, 12, 15, 19)] d mc ms [.ref 0, .int x, .int y, .int z, .ref 35] L f (WpL Po) := by
  refine AW.of (by decide +kernel) (by simp [Value.category]) (Nat.le_of_ble_eq_true rfl) (fun X C0 => ?_); have C := C0.C
  refine C.aload dL_days_0 rfl ?_
  refine C.ic dL_days_2 ?_
  refine C.aload_n dL_days_3 rfl ?_
  refine C.iload_n dL_days_4 rfl ?_
  refine C.iload_n dL_days_5 rfl ?_
  refine C.iload_n dL_days_6 rfl ?_
  refine C.callV (M) cw_X8_days ml_L_59 im_X8_days sl_X8_days dL_days_7 h0L h0f rfl rfl (by omega) (by omega) (by omega) (Nat.le_of_ble_eq_true rfl) rfl (fun r7 L7 f7 hR7 => ?_)
  obtain ⟨⟨z, rfl⟩, h35, g, hg⟩ := hPo _ _ _ hR7
  refine C.i2l dL_days_10 ?_
  refine C.last0 dL_days_11 h35 hg ?_
  refine C.goto (tgt := 19) dL_days_12 (by decide) ?_
  refine C.ic dL_days_19 ?_
  refine C.retI rfl (by first | rfl | (exact (iI_bool (by first | exact Or.inl rfl | exact Or.inr rfl | assumption)).1)) dL_days_20 (by omega) (by omega) ⟨rfl, z, _, _, hR7, rfl, rfl⟩
  skip
theorem wx_days {x y z : Int32} (hd : d2 + 1 ≤ d) (h0L : 0 ∈ L) (h0f : f 0 = .inr (10, fs)) (M : XM yX8_days cX8_days 4 (some .int) d2 mc ms [.ref 0, .int x, .int y, .int z] L f PX) (hPX : ∀ E L' f', PX E L' f' → E = eIS) : AW yL_days cL_days 6 (some .int) [(0, 12, 15, 19)] d mc ms [.ref 0, .int x, .int y, .int z, .ref 35] L f (fun r L' f' => ∃ E, PX E L' f' ∧ r = some (.int (iI (exN E)))) := by
  refine AW.of (by decide +kernel) (by simp [Value.category]) (Nat.le_of_ble_eq_true rfl) (fun X C0 => ?_); have C := C0.C
  refine C.aload dL_days_0 rfl ?_
  refine C.ic dL_days_2 ?_
  refine C.aload_n dL_days_3 rfl ?_
  refine C.iload_n dL_days_4 rfl ?_
  refine C.iload_n dL_days_5 rfl ?_
  refine C.iload_n dL_days_6 rfl ?_
  skip
  refine C0.tryV M cw_X8_days ml_L_59 im_X8_days sl_X8_days dL_days_7 h0L h0f rfl rfl (by omega) (by omega) (by omega) (Nat.le_of_ble_eq_true rfl) rfl (fun E L1 f1 hR => ?_)
  obtain rfl := hPX _ _ _ hR
  refine ⟨15, ⟨by decide, by decide, _, (om_wsL_law0_r26 _ (List.mem_of_getElem? (i := 5) rfl)), Or.inl ⟨rfl, by decide, rfl⟩⟩, fun q => ?_⟩
  refine C.astore dL_days_15 (by decide) rfl ?_
  refine C.ic dL_days_17 ?_
  refine C.retI rfl (by first | rfl | (exact (iI_bool (by first | exact Or.inl rfl | exact Or.inr rfl | assumption)).1)) dL_days_18 (by omega) (by omega) ⟨eIS, hR, rfl⟩
  skip
theorem wn_again (hd : d2 + 1 ≤ d) (h0L : 0 ∈ L) (h0f : f 0 = .inr (10, fs)) (M : AM yX8_again cX8_again 1 none d2 mc ms [.ref 0] L f Po) (hPo : ∀ r L' f', Po r L' f' → r = none) : AW yL_again cL_again 2 (some .int) [(0, 4, 7, 19)] d mc ms [.ref 0] L f (fun r L' f' => r = some (.int (iI 0)) ∧ Po none L' f') := by
  refine AW.of (by decide +kernel) (by simp [Value.category]) (Nat.le_of_ble_eq_true rfl) (fun X C0 => ?_); have C := C0.C
  refine C.aload_n dL_again_0 rfl ?_
  refine C.callV (M) cw_X8_again ml_L_35 im_X8_again sl_X8_again dL_again_1 h0L h0f rfl rfl (by omega) (by omega) (by omega) (Nat.le_of_ble_eq_true rfl) rfl (fun r1 L1 f1 hR1 => ?_)
  obtain rfl := hPo _ _ _ hR1
  refine C.goto (tgt := 10) dL_again_4 (by decide) ?_
  refine C.ic dL_again_10 ?_
  refine C.retI rfl (by first | rfl | (exact (iI_bool (by first | exact Or.inl rfl | exact Or.inr rfl | assumption)).1)) dL_again_11 (by omega) (by omega) ⟨rfl, hR1⟩
  skip
theorem wx_again (hd : d2 + 1 ≤ d) (h0L : 0 ∈ L) (h0f : f 0 = .inr (10, fs)) (M : XM yX8_again cX8_again 1 none d2 mc ms [.ref 0] L f PX) (hPX : ∀ E L' f', PX E L' f' → E = eIS) : AW yL_again cL_again 2 (some .int) [(0, 4, 7, 19)] d mc ms [.ref 0] L f (fun r L' f' => ∃ E, PX E L' f' ∧ r = some (.int (iI (exN E)))) := by
  refine AW.of (by decide +kernel) (by simp [Value.category]) (Nat.le_of_ble_eq_true rfl) (fun X C0 => ?_); have C := C0.C
  refine C.aload_n dL_again_0 rfl ?_
  skip
  refine C0.tryV M cw_X8_again ml_L_35 im_X8_again sl_X8_again dL_again_1 h0L h0f rfl rfl (by omega) (by omega) (by omega) (Nat.le_of_ble_eq_true rfl) rfl (fun E L1 f1 hR => ?_)
  obtain rfl := hPX _ _ _ hR
  refine ⟨7, ⟨by decide, by decide, _, (om_wsL_law0_r26 _ (List.mem_of_getElem? (i := 5) rfl)), Or.inl ⟨rfl, by decide, rfl⟩⟩, fun q => ?_⟩
  refine C.astore_n dL_again_7 (by decide) rfl ?_
  refine C.ic dL_again_8 ?_
  refine C.retI rfl (by first | rfl | (exact (iI_bool (by first | exact Or.inl rfl | exact Or.inr rfl | assumption)).1)) dL_again_9 (by omega) (by omega) ⟨eIS, hR, rfl⟩
  skip
end WRA
