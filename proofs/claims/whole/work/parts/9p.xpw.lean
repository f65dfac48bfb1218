/-! PlainWords' own methods, where something is thrown -/
section XPW
variable {d e : Nat} {L : List Nat} {f : Nat → AC} {c : SF} {a : SA} {e4 e13 e15 : Nat} {po pn : List (Nat × Sen)}
theorem x_needLetter (hd : 6 ≤ d) (h : KI L f c a e4 e13 e15 po pn) (h6 : c 6 = 0) : XM yX8_needLetter cX8_needLetter 1 none d 1 6 [.ref 0] L f (XP eIS L f) := by
  obtain ⟨h0L, h0f⟩ := h.o0
  refine XM.of (by decide +kernel) (by simp [Value.category]) (Nat.le_of_ble_eq_true rfl) (fun X C0 => ?_); have C := C0.C
  refine C.aload_n dX8_needLetter_0 rfl ?_
  refine C.getf gf_X8_44 dX8_needLetter_1 h0L h0f rfl ?_
  refine C.if_neI (tgt := 17) dX8_needLetter_4 (by decide) (by omega) (fun hc4 => absurd hc4 (by omega)) (fun hc4 => ?_)
  exact C0.thrIS dX8_needLetter_7 dX8_needLetter_10 dX8_needLetter_11 dX8_needLetter_13 dX8_needLetter_16 hd (Nat.le_of_ble_eq_true rfl) (Nat.le_refl _) (Nat.le_refl _) ⟨rfl, rfl, rfl⟩
theorem x_needSentence0 {x : Int32} (hd : 7 ≤ d) (h : KI L f c a e4 e13 e15 po pn) (h6 : c 6 = 0) : XM yX8_needSentence cX8_needSentence 2 none d 1 6 [.ref 0, .int x] L f (XP eIS L f) := by
  obtain ⟨h0L, h0f⟩ := h.o0
  have M1 := x_needLetter (d := d - 1) (by omega) h h6
  refine XM.of (by decide +kernel) (by simp [Value.category]) (Nat.le_of_ble_eq_true rfl) (fun X C0 => ?_); have C := C0.C
  refine C.aload_n dX8_needSentence_0 rfl ?_
  exact C0.callV M1 cw_X8_needLetter ml_X8_104 im_X8_needLetter sl_X8_needLetter dX8_needSentence_1 h0L h0f rfl rfl (by omega) (Nat.le_refl _) (Nat.le_refl _) (Nat.le_of_ble_eq_true rfl) rfl (fun _ _ _ h => h)
theorem x_needSentence {i : Int} (hd : 7 ≤ d) (h : KI L f c a e4 e13 e15 po pn) (h6 : 0 < c 6 ∧ c 6 < 100000) (hl : pn.length ≤ 24) (hi2 : -2147483648 ≤ i ∧ i < 2147483648) (hi : i < 0 ∨ (pn.length : Int) ≤ i) : XM yX8_needSentence cX8_needSentence 2 none d 1 6 [.ref 0, .int (iI i)] L f (XP eIO L f) := by
  obtain ⟨h0L, h0f⟩ := h.o0
  have M1 := p_needLetter (d := d - 1) h h6
  have M2 := t_size (d := d - 1) (by omega) h.2.1.2.2
  obtain ⟨-, h15L, h15f⟩ := h.2.1.2.2.1
  refine XM.of (by decide +kernel) (by simp [Value.category]) (Nat.le_of_ble_eq_true rfl) (fun X C0 => ?_); have C := C0.C
  by_cases hneg : i < 0
  · refine C.aload_n dX8_needSentence_0 rfl ?_
    refine C.callV (M1) cw_X8_needLetter ml_X8_104 im_X8_needLetter sl_X8_needLetter dX8_needSentence_1 h0L h0f rfl rfl (by omega) (Nat.zero_le _) (Nat.zero_le _) (Nat.le_of_ble_eq_true rfl) rfl (fun r1 L1 f1 hR1 => ?_)
    obtain ⟨rfl, hL9, hf9⟩ := hR1
    rw [hL9, hf9]
    clear hL9 hf9
    refine C.iload_n dX8_needSentence_4 rfl ?_
    refine C.if_ltI (tgt := 19) dX8_needSentence_5 (by decide) (by omega) (fun hc5 => ?_) (fun hc5 => absurd hc5 (by omega))
    exact C0.thrIO dX8_needSentence_19 dX8_needSentence_22 dX8_needSentence_23 dX8_needSentence_25 dX8_needSentence_28 (by omega) (Nat.le_of_ble_eq_true rfl) (Nat.le_refl _) (Nat.le_refl _) ⟨rfl, rfl, rfl⟩
  · refine C.aload_n dX8_needSentence_0 rfl ?_
    refine C.callV (M1) cw_X8_needLetter ml_X8_104 im_X8_needLetter sl_X8_needLetter dX8_needSentence_1 h0L h0f rfl rfl (by omega) (Nat.zero_le _) (Nat.zero_le _) (Nat.le_of_ble_eq_true rfl) rfl (fun r1 L1 f1 hR1 => ?_)
    obtain ⟨rfl, hL9, hf9⟩ := hR1
    rw [hL9, hf9]
    clear hL9 hf9
    refine C.iload_n dX8_needSentence_4 rfl ?_
    refine C.if_ltI (tgt := 19) dX8_needSentence_5 (by decide) (by omega) (fun hc5 => absurd hc5 (by omega)) (fun hc5 => ?_)
    refine C.iload_n dX8_needSentence_8 rfl ?_
    refine C.aload_n dX8_needSentence_9 rfl ?_
    refine C.getf gf_X8_37 dX8_needSentence_10 h0L h0f rfl ?_
    refine C.callV (M2) cw_X1_size ml_X8_83 im_X1_size sl_X1_size dX8_needSentence_13 h15L h15f rfl rfl (by omega) (Nat.zero_le _) (Nat.zero_le _) (Nat.le_of_ble_eq_true rfl) rfl (fun r13 L13 f13 hR13 => ?_)
    obtain ⟨rfl, hL9, hf9⟩ := hR13
    rw [hL9, hf9]
    clear hL9 hf9
    refine C.icmp_ltI (tgt := 29) dX8_needSentence_16 (by decide) (by omega) (by omega) (fun hc16 => absurd hc16 (by omega)) (fun hc16 => ?_)
    exact C0.thrIO dX8_needSentence_19 dX8_needSentence_22 dX8_needSentence_23 dX8_needSentence_25 dX8_needSentence_28 (by omega) (Nat.le_of_ble_eq_true rfl) (Nat.le_refl _) (Nat.le_refl _) ⟨rfl, rfl, rfl⟩
theorem x_part {x : Int32} {E : String} (hd : 8 ≤ d) (h : KI L f c a e4 e13 e15 po pn) (M1 : XM yX8_needSentence cX8_needSentence 2 none (d - 1) 1 6 [.ref 0, .int x] L f (XP E L f)) : XM yX8_part cX8_part 2 (some .boolean) d 1 6 [.ref 0, .int x] L f (XP E L f) := by
  obtain ⟨h0L, h0f⟩ := h.o0
  refine XM.of (by decide +kernel) (by simp [Value.category]) (Nat.le_of_ble_eq_true rfl) (fun X C0 => ?_); have C := C0.C
  refine C.aload_n dX8_part_0 rfl ?_
  refine C.iload_n dX8_part_1 rfl ?_
  exact C0.callV M1 cw_X8_needSentence ml_X8_85 im_X8_needSentence sl_X8_needSentence dX8_part_2 h0L h0f rfl rfl (by omega) (Nat.le_refl _) (Nat.le_refl _) (Nat.le_of_ble_eq_true rfl) rfl (fun _ _ _ h => h)
theorem x_melt {x : Int32} {E : String} (hd : 8 ≤ d) (h : KI L f c a e4 e13 e15 po pn) (M1 : XM yX8_needSentence cX8_needSentence 2 none (d - 1) 1 6 [.ref 0, .int x] L f (XP E L f)) : XM yX8_melt cX8_melt 2 (some .boolean) d 1 6 [.ref 0, .int x] L f (XP E L f) := by
  obtain ⟨h0L, h0f⟩ := h.o0
  refine XM.of (by decide +kernel) (by simp [Value.category]) (Nat.le_of_ble_eq_true rfl) (fun X C0 => ?_); have C := C0.C
  refine C.aload_n dX8_melt_0 rfl ?_
  refine C.iload_n dX8_melt_1 rfl ?_
  exact C0.callV M1 cw_X8_needSentence ml_X8_85 im_X8_needSentence sl_X8_needSentence dX8_melt_2 h0L h0f rfl rfl (by omega) (Nat.le_refl _) (Nat.le_refl _) (Nat.le_of_ble_eq_true rfl) rfl (fun _ _ _ h => h)
theorem x_turn {x : Int32} {E : String} (hd : 8 ≤ d) (h : KI L f c a e4 e13 e15 po pn) (M1 : XM yX8_needSentence cX8_needSentence 2 none (d - 1) 1 6 [.ref 0, .int x] L f (XP E L f)) : XM yX8_turn cX8_turn 2 (some .boolean) d 1 6 [.ref 0, .int x] L f (XP E L f) := by
  obtain ⟨h0L, h0f⟩ := h.o0
  refine XM.of (by decide +kernel) (by simp [Value.category]) (Nat.le_of_ble_eq_true rfl) (fun X C0 => ?_); have C := C0.C
  refine C.aload_n dX8_turn_0 rfl ?_
  refine C.iload_n dX8_turn_1 rfl ?_
  exact C0.callV M1 cw_X8_needSentence ml_X8_85 im_X8_needSentence sl_X8_needSentence dX8_turn_2 h0L h0f rfl rfl (by omega) (Nat.le_refl _) (Nat.le_refl _) (Nat.le_of_ble_eq_true rfl) rfl (fun _ _ _ h => h)
theorem x_ease {x : Int32} {E : String} (hd : 8 ≤ d) (h : KI L f c a e4 e13 e15 po pn) (M1 : XM yX8_needSentence cX8_needSentence 2 none (d - 1) 1 6 [.ref 0, .int x] L f (XP E L f)) : XM yX8_ease cX8_ease 2 (some .boolean) d 1 6 [.ref 0, .int x] L f (XP E L f) := by
  obtain ⟨h0L, h0f⟩ := h.o0
  refine XM.of (by decide +kernel) (by simp [Value.category]) (Nat.le_of_ble_eq_true rfl) (fun X C0 => ?_); have C := C0.C
  refine C.aload_n dX8_ease_0 rfl ?_
  refine C.iload_n dX8_ease_1 rfl ?_
  exact C0.callV M1 cw_X8_needSentence ml_X8_85 im_X8_needSentence sl_X8_needSentence dX8_ease_2 h0L h0f rfl rfl (by omega) (Nat.le_refl _) (Nat.le_refl _) (Nat.le_of_ble_eq_true rfl) rfl (fun _ _ _ h => h)
theorem x_look {x y : Int32} {E : String} (hd : 8 ≤ d) (h : KI L f c a e4 e13 e15 po pn) (M1 : XM yX8_needSentence cX8_needSentence 2 none (d - 1) 1 6 [.ref 0, .int x] L f (XP E L f)) : XM yX8_look cX8_look 3 (some .int) d 1 6 [.ref 0, .int x, .int y] L f (XP E L f) := by
  obtain ⟨h0L, h0f⟩ := h.o0
  refine XM.of (by decide +kernel) (by simp [Value.category]) (Nat.le_of_ble_eq_true rfl) (fun X C0 => ?_); have C := C0.C
  refine C.aload_n dX8_look_0 rfl ?_
  refine C.iload_n dX8_look_1 rfl ?_
  exact C0.callV M1 cw_X8_needSentence ml_X8_85 im_X8_needSentence sl_X8_needSentence dX8_look_2 h0L h0f rfl rfl (by omega) (Nat.le_refl _) (Nat.le_refl _) (Nat.le_of_ble_eq_true rfl) rfl (fun _ _ _ h => h)
theorem x_lookN {i : Nat} {t : Int} (hd : 6 ≤ d) (h : KI L f c a e4 e13 e15 po pn) (h6 : 0 < c 6 ∧ c 6 < 100000) (hi : i < pn.length) (hl : pn.length ≤ 24) (ht2 : -2147483648 ≤ t ∧ t < 2147483648) (ht : t < 0 ∨ 8 < t) : XM yX8_look cX8_look 3 (some .int) d 1 6 [.ref 0, .int (iI i), .int (iI t)] L f (XP eNE L f) := by
  obtain ⟨h0L, h0f⟩ := h.o0
  have M1 := p_needSentence (d := d - 1) (by omega) h h6 hi hl
  refine XM.of (by decide +kernel) (by simp [Value.category]) (Nat.le_of_ble_eq_true rfl) (fun X C0 => ?_); have C := C0.C
  by_cases hneg : t < 0
  · refine C.aload_n dX8_look_0 rfl ?_
    refine C.iload_n dX8_look_1 rfl ?_
    refine C.callV (M1) cw_X8_needSentence ml_X8_85 im_X8_needSentence sl_X8_needSentence dX8_look_2 h0L h0f rfl rfl (by omega) (Nat.zero_le _) (Nat.zero_le _) (Nat.le_of_ble_eq_true rfl) rfl (fun r2 L2 f2 hR2 => ?_)
    obtain ⟨rfl, hL9, hf9⟩ := hR2
    rw [hL9, hf9]
    clear hL9 hf9
    refine C.iload_n dX8_look_5 rfl ?_
    refine C.if_ltI (tgt := 15) dX8_look_6 (by decide) (by omega) (fun hc6 => ?_) (fun hc6 => absurd hc6 (by omega))
    exact C0.thrNE dX8_look_15 dX8_look_18 dX8_look_19 dX8_look_21 dX8_look_24 (by omega) (Nat.le_of_ble_eq_true rfl) (Nat.le_refl _) (Nat.le_refl _) ⟨rfl, rfl, rfl⟩
  · refine C.aload_n dX8_look_0 rfl ?_
    refine C.iload_n dX8_look_1 rfl ?_
    refine C.callV (M1) cw_X8_needSentence ml_X8_85 im_X8_needSentence sl_X8_needSentence dX8_look_2 h0L h0f rfl rfl (by omega) (Nat.zero_le _) (Nat.zero_le _) (Nat.le_of_ble_eq_true rfl) rfl (fun r2 L2 f2 hR2 => ?_)
    obtain ⟨rfl, hL9, hf9⟩ := hR2
    rw [hL9, hf9]
    clear hL9 hf9
    refine C.iload_n dX8_look_5 rfl ?_
    refine C.if_ltI (tgt := 15) dX8_look_6 (by decide) (by omega) (fun hc6 => absurd hc6 (by omega)) (fun hc6 => ?_)
    refine C.iload_n dX8_look_9 rfl ?_
    refine C.bi dX8_look_10 (by decide) ?_
    refine C.icmp_leI (tgt := 25) dX8_look_12 (by decide) (by omega) (by omega) (fun hc12 => absurd hc12 (by omega)) (fun hc12 => ?_)
    exact C0.thrNE dX8_look_15 dX8_look_18 dX8_look_19 dX8_look_21 dX8_look_24 (by omega) (Nat.le_of_ble_eq_true rfl) (Nat.le_refl _) (Nat.le_refl _) ⟨rfl, rfl, rfl⟩
theorem x_plainest (hd : 7 ≤ d) (h : KI L f c a e4 e13 e15 po pn) (h6 : c 6 = 0) : XM yX8_plainest cX8_plainest 1 (some .int) d 1 6 [.ref 0] L f (XP eIS L f) := by
  obtain ⟨h0L, h0f⟩ := h.o0
  have M1 := x_needLetter (d := d - 1) (by omega) h h6
  refine XM.of (by decide +kernel) (by simp [Value.category]) (Nat.le_of_ble_eq_true rfl) (fun X C0 => ?_); have C := C0.C
  refine C.aload_n dX8_plainest_0 rfl ?_
  exact C0.callV M1 cw_X8_needLetter ml_X8_104 im_X8_needLetter sl_X8_needLetter dX8_plainest_1 h0L h0f rfl rfl (by omega) (Nat.le_refl _) (Nat.le_refl _) (Nat.le_of_ble_eq_true rfl) rfl (fun _ _ _ h => h)
theorem x_again (hd : 7 ≤ d) (h : KI L f c a e4 e13 e15 po pn) (h6 : c 6 = 0) : XM yX8_again cX8_again 1 none d 1 6 [.ref 0] L f (XP eIS L f) := by
  obtain ⟨h0L, h0f⟩ := h.o0
  have M1 := x_needLetter (d := d - 1) (by omega) h h6
  refine XM.of (by decide +kernel) (by simp [Value.category]) (Nat.le_of_ble_eq_true rfl) (fun X C0 => ?_); have C := C0.C
  refine C.aload_n dX8_again_0 rfl ?_
  exact C0.callV M1 cw_X8_needLetter ml_X8_104 im_X8_needLetter sl_X8_needLetter dX8_again_1 h0L h0f rfl rfl (by omega) (Nat.le_refl _) (Nat.le_refl _) (Nat.le_of_ble_eq_true rfl) rfl (fun _ _ _ h => h)
theorem x_cost {x : Int32} (hd : 7 ≤ d) (h : KI L f c a e4 e13 e15 po pn) (h6 : c 6 = 0) : XM yX8_cost cX8_cost 2 (some .int) d 1 6 [.ref 0, .int x] L f (XP eIS L f) := by
  obtain ⟨h0L, h0f⟩ := h.o0
  have M1 := x_needLetter (d := d - 1) (by omega) h h6
  refine XM.of (by decide +kernel) (by simp [Value.category]) (Nat.le_of_ble_eq_true rfl) (fun X C0 => ?_); have C := C0.C
  refine C.aload_n dX8_cost_0 rfl ?_
  exact C0.callV M1 cw_X8_needLetter ml_X8_104 im_X8_needLetter sl_X8_needLetter dX8_cost_1 h0L h0f rfl rfl (by omega) (Nat.le_refl _) (Nat.le_refl _) (Nat.le_of_ble_eq_true rfl) rfl (fun _ _ _ h => h)
theorem x_same (hd : 7 ≤ d) (h : KI L f c a e4 e13 e15 po pn) (h6 : c 6 = 0) : XM yX8_same cX8_same 1 (some .boolean) d 1 6 [.ref 0] L f (XP eIS L f) := by
  obtain ⟨h0L, h0f⟩ := h.o0
  have M1 := x_needLetter (d := d - 1) (by omega) h h6
  refine XM.of (by decide +kernel) (by simp [Value.category]) (Nat.le_of_ble_eq_true rfl) (fun X C0 => ?_); have C := C0.C
  refine C.aload_n dX8_same_0 rfl ?_
  exact C0.callV M1 cw_X8_needLetter ml_X8_104 im_X8_needLetter sl_X8_needLetter dX8_same_1 h0L h0f rfl rfl (by omega) (Nat.le_refl _) (Nat.le_refl _) (Nat.le_of_ble_eq_true rfl) rfl (fun _ _ _ h => h)
theorem x_write (hd : 7 ≤ d) (h : KI L f c a e4 e13 e15 po pn) (h6 : c 6 = 0) : XM yX8_write cX8_write 1 (some .int) d 1 6 [.ref 0] L f (XP eIS L f) := by
  obtain ⟨h0L, h0f⟩ := h.o0
  have M1 := x_needLetter (d := d - 1) (by omega) h h6
  refine XM.of (by decide +kernel) (by simp [Value.category]) (Nat.le_of_ble_eq_true rfl) (fun X C0 => ?_); have C := C0.C
  refine C.aload_n dX8_write_0 rfl ?_
  exact C0.callV M1 cw_X8_needLetter ml_X8_104 im_X8_needLetter sl_X8_needLetter dX8_write_1 h0L h0f rfl rfl (by omega) (Nat.le_refl _) (Nat.le_refl _) (Nat.le_of_ble_eq_true rfl) rfl (fun _ _ _ h => h)
theorem x_ask {x y z w : Int32} (hd : 7 ≤ d) (h : KI L f c a e4 e13 e15 po pn) (h6 : c 6 = 0) : XM yX8_ask cX8_ask 5 (some .int) d 1 6 [.ref 0, .int x, .int y, .int z, .int w] L f (XP eIS L f) := by
  obtain ⟨h0L, h0f⟩ := h.o0
  have M1 := x_needLetter (d := d - 1) (by omega) h h6
  refine XM.of (by decide +kernel) (by simp [Value.category]) (Nat.le_of_ble_eq_true rfl) (fun X C0 => ?_); have C := C0.C
  refine C.aload_n dX8_ask_0 rfl ?_
  exact C0.callV M1 cw_X8_needLetter ml_X8_104 im_X8_needLetter sl_X8_needLetter dX8_ask_1 h0L h0f rfl rfl (by omega) (Nat.le_refl _) (Nat.le_refl _) (Nat.le_of_ble_eq_true rfl) rfl (fun _ _ _ h => h)
theorem x_days {x y z : Int32} (hd : 7 ≤ d) (h : KI L f c a e4 e13 e15 po pn) (h6 : c 6 = 0) : XM yX8_days cX8_days 4 (some .int) d 1 6 [.ref 0, .int x, .int y, .int z] L f (XP eIS L f) := by
  obtain ⟨h0L, h0f⟩ := h.o0
  have M1 := x_needLetter (d := d - 1) (by omega) h h6
  refine XM.of (by decide +kernel) (by simp [Value.category]) (Nat.le_of_ble_eq_true rfl) (fun X C0 => ?_); have C := C0.C
  refine C.aload_n dX8_days_0 rfl ?_
  exact C0.callV M1 cw_X8_needLetter ml_X8_104 im_X8_needLetter sl_X8_needLetter dX8_days_1 h0L h0f rfl rfl (by omega) (Nat.le_refl _) (Nat.le_refl _) (Nat.le_of_ble_eq_true rfl) rfl (fun _ _ _ h => h)
set_option maxRecDepth 20000 in
set_option maxHeartbeats 2000000 in
theorem x_letter {b : Nat} (hd : 175 ≤ d) (h : KI L f c a e4 e13 e15 po pn) (h11 : c 11 = e) (he : e ≤ 400) (hb : TK a) (hq : lettF (a 2) e 8 [] 0 = .inr b) (hbl : b ≤ 400) : XM yX8_letter cX8_letter 2 (some .int) d 450 7500 [.ref 0] L f (fun E L' f' => E = eIA ∧ ∃ c' a', KJ L' f' c' a' (po.map (fun p => p.2)) (pn.map (fun p => p.2)) ∧ c' 5 = b ∧ c' 6 = c 6 ∧ c' 7 = c 7 ∧ c' 11 = 0 ∧ a' 2 = a 2 ∧ FM L f L' f') := by
  obtain ⟨h0L, h0f⟩ := h.o0
  obtain ⟨p4, h4⟩ := h.2.1.1
  have M1 := r_read (d := d - 1) (by omega) h.1.1 h.1.2.1 h.1.2.2 h11 he hb h4
  rw [hq] at M1
  have h3f : f 3 = .inr (5, ko3 c) := by rw [h.1.1]; rfl
  refine XM.of (by decide +kernel) (by simp [Value.category]) (Nat.le_of_ble_eq_true rfl) (fun X C0 => ?_); have C := C0.C
  refine C.aload_n dX8_letter_0 rfl ?_
  refine C.getf gf_X8_19 dX8_letter_1 h0L h0f rfl ?_
  refine C.aload_n dX8_letter_4 rfl ?_
  refine C.getf gf_X8_10 dX8_letter_5 h0L h0f rfl ?_
  refine C.callV (M1) cw_X2_read ml_X8_61 im_X2_read sl_X2_read dX8_letter_8 (h.1.2.1 3 (by omega)) h3f rfl rfl (by omega) (by omega) (by omega) (Nat.le_of_ble_eq_true rfl) rfl (fun r8 L8 f8 hR8 => ?_)
  obtain ⟨c1, a1, i1, e', ps1, hS, rfl, hstop⟩ := hR8
  obtain ⟨hK1, hM1⟩ := h.read hS
  skip
  obtain ⟨h0L1, h0f1⟩ := hK1.o0
  have hL1 := hK1.1.2.1
  have hGR : GR c c1 a a1 := hS.2.2.2.2.2.1
  have h111 : c1 11 = e := (hGR.1 11 (by omega)).trans h11
  have M2 := (k_cut (d := d - 1) (g := f8) (a := a1) (z := 0) hL1 (by unfold i3; decide) h111 he).at hK1.1.1
  rw [if_pos (show (0 : Int) ≤ 0 ∧ (0 : Int) ≤ (e : Int) by omega)] at M2
  have h1f1 : f8 1 = .inr (7, ko1 c1) := by rw [hK1.1.1]; rfl
  refine C.istore_n dX8_letter_11 (by decide) rfl ?_
  refine C.aload_n dX8_letter_12 rfl ?_
  refine C.getf gf_X8_10 dX8_letter_13 h0L1 h0f1 rfl ?_
  refine C.ic dX8_letter_16 ?_
  refine C.callV (M2) cw_X4_cut ml_X8_57 im_X4_cut sl_X4_cut dX8_letter_17 (hL1 1 (by omega)) h1f1 rfl rfl (by omega) (by omega) (by omega) (Nat.le_of_ble_eq_true rfl) rfl (fun r17 L17 f17 hR17 => ?_)
  obtain ⟨c9, a9, ⟨rfl, hc9, ha9⟩, rfl, hf9⟩ := hR17
  rw [hf9, hc9, ha9]
  skip
  have hL := hL1
  refine C.pop dX8_letter_20 rfl ?_
  have hG1 : Gk c1 (va_up c1 11 0) a1 a1 := ⟨fun j _ _ _ y _ _ => va_up_ne _ _ y, fun _ _ _ => rfl⟩
  obtain ⟨hK2, hM2⟩ := hK1.gk hG1
  have hT2 : TsAt (va_up c1 11 0) a1 (tkF (a 2) e 400 0) e i1 := hS.2.2.2.1
  have M3 := r_stoppedAt (d := d - 1) (e := e) (by omega) hK2.1.1 hK2.1.2.1 hT2
  rw [hstop] at M3
  have h3f2 : (kv (va_up c1 11 0) a1 f8) 3 = .inr (5, ko3 (va_up c1 11 0)) := rfl
  have hG2 : Gk c1 (va_up (va_up c1 11 0) 5 b) a1 a1 := ⟨fun j x _ _ y _ _ => (va_up_ne _ _ x).trans (va_up_ne _ _ y), fun _ _ _ => rfl⟩
  obtain ⟨hK3, hM3⟩ := hK1.gk hG2
  refine C.aload_n dX8_letter_21 rfl ?_
  refine C.iload_n dX8_letter_22 rfl ?_
  refine C.if_eqI (tgt := 30) dX8_letter_23 (by decide) (by decide) (fun hc23 => ?_) (fun hc23 => absurd hc23 (by decide))
  refine C.aload_n dX8_letter_30 rfl ?_
  refine C.getf gf_X8_19 dX8_letter_31 (hL _ (by decide)) rfl rfl ?_
  refine C.callV (M3) cw_X2_stoppedAt ml_X8_65 im_X2_stoppedAt sl_X2_stoppedAt dX8_letter_34 (hL 3 (by omega)) h3f2 rfl rfl (by omega) (by omega) (by omega) (Nat.le_of_ble_eq_true rfl) rfl (fun r34 L34 f34 hR34 => ?_)
  obtain ⟨rfl, hL9, hf9⟩ := hR34
  rw [hL9, hf9]
  clear hL9 hf9
  refine C.kput_5 hL pf_X8_40 dX8_letter_37 ?_
  refine C.iload_n dX8_letter_40 rfl ?_
  refine C.if_neI (tgt := 54) dX8_letter_41 (by decide) (by decide) (fun hc41 => absurd hc41 (by decide)) (fun hc41 => ?_)
  exact C0.thrIA dX8_letter_44 dX8_letter_47 dX8_letter_48 dX8_letter_50 dX8_letter_53 (by omega) (Nat.le_of_ble_eq_true rfl) (by omega) (by omega) ⟨rfl, _, _, ⟨_, _, _, _, _, hK3, rfl, rfl⟩, rfl, hGR.1 6 (by omega), hGR.1 7 (by omega), rfl, hGR.2 2 (by omega), hM1.tr hM3⟩
end XPW
