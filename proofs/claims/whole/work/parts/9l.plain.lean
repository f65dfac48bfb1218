/-! PlainWords' own methods, where nothing is thrown -/
section PW
variable {d : Nat} {L : List Nat} {f : Nat → AC} {c : SF} {a : SA} {xs ys : List Sen} {e4 e13 e15 : Nat} {po pn : List (Nat × Sen)}
theorem k8_tallied {g : Nat → AC} {b : Bool} (hL : ∀ k, k < 36 → k ∈ L) : KA yX8_tallied cX8_tallied 2 (some .boolean) d [.ref 0, .int (iI (b2i b))] L g c a (fun r c' a' => r = some (.int (iI (b2i b))) ∧ c' = (if b then va_up c 7 (c 7 + 1) else c) ∧ a' = a) := by
  cases b with
  | false =>
    refine KA.of (by decide +kernel) rfl (Nat.le_of_ble_eq_true rfl) (fun X C => ?_)
    refine C.iload_n dX8_tallied_0 rfl ?_
    refine C.if_eqI (tgt := 14) dX8_tallied_1 (by decide) (by decide) (fun hc1 => ?_) (fun hc1 => absurd hc1 (by decide))
    refine C.iload_n dX8_tallied_14 rfl ?_
    refine C.retI rfl (by first | rfl | (exact (iI_bool (by first | exact Or.inl rfl | exact Or.inr rfl | assumption)).1)) dX8_tallied_15 (Nat.le_refl _) (Nat.le_refl _) ⟨_, _, ?_, rfl, rfl⟩
    exact ⟨rfl, rfl, rfl⟩
  | true =>
    refine KA.of (by decide +kernel) rfl (Nat.le_of_ble_eq_true rfl) (fun X C => ?_)
    refine C.iload_n dX8_tallied_0 rfl ?_
    refine C.if_eqI (tgt := 14) dX8_tallied_1 (by decide) (by decide) (fun hc1 => absurd hc1 (by decide)) (fun hc1 => ?_)
    refine C.aload_n dX8_tallied_4 rfl ?_
    refine C.dup dX8_tallied_5 rfl ?_
    refine C.getf gf_X8_47 dX8_tallied_6 (hL _ (by decide)) rfl rfl ?_
    refine C.ic dX8_tallied_9 ?_
    refine C.iaddI dX8_tallied_10 ?_
    refine C.kput_7 hL pf_X8_47 dX8_tallied_11 ?_
    refine C.iload_n dX8_tallied_14 rfl ?_
    refine C.retI rfl (by first | rfl | (exact (iI_bool (by first | exact Or.inl rfl | exact Or.inr rfl | assumption)).1)) dX8_tallied_15 (Nat.le_refl _) (Nat.le_refl _) ⟨_, _, ?_, rfl, rfl⟩
    exact ⟨rfl, rfl, rfl⟩
theorem KI.o0 (h : KI L f c a e4 e13 e15 po pn) : 0 ∈ L ∧ f 0 = .inr (10, ko0 c) := ⟨h.1.2.1 0 (by omega), by rw [h.1.1]; rfl⟩
theorem p_needLetter (h : KI L f c a e4 e13 e15 po pn) (h6 : 0 < c 6 ∧ c 6 < 100000) : AM yX8_needLetter cX8_needLetter 1 none d 0 0 [.ref 0] L f (SP none L f) := by
  obtain ⟨h0L, h0f⟩ := h.o0
  refine AM.of (by decide +kernel) (by simp [Value.category]) (Nat.le_of_ble_eq_true rfl) false (fun h => by cases h) (fun X C => ?_)
  refine C.aload_n dX8_needLetter_0 rfl ?_
  refine C.getf gf_X8_44 dX8_needLetter_1 h0L h0f rfl ?_
  refine C.if_neI (tgt := 17) dX8_needLetter_4 (by decide) (by omega) (fun hc4 => ?_) (fun hc4 => absurd hc4 (by omega))
  refine C.vret rfl dX8_needLetter_17 (Nat.le_refl _) (Nat.le_refl _) ⟨rfl, rfl, rfl⟩
  skip
theorem p_needSentence {i : Nat} (hd : 2 ≤ d) (h : KI L f c a e4 e13 e15 po pn) (h6 : 0 < c 6 ∧ c 6 < 100000) (hi : i < pn.length) (hl : pn.length ≤ 24) : AM yX8_needSentence cX8_needSentence 2 none d 0 0 [.ref 0, .int (iI i)] L f (SP none L f) := by
  obtain ⟨h0L, h0f⟩ := h.o0
  have M1 := p_needLetter (d := d - 1) h h6
  have M2 := t_size (d := d - 1) (by omega) h.2.1.2.2
  obtain ⟨-, h15L, h15f⟩ := h.2.1.2.2.1
  refine AM.of (by decide +kernel) (by simp [Value.category]) (Nat.le_of_ble_eq_true rfl) false (fun h => by cases h) (fun X C => ?_)
  refine C.aload_n dX8_needSentence_0 rfl ?_
  refine C.callV (M1) cw_X8_needLetter ml_X8_104 im_X8_needLetter sl_X8_needLetter dX8_needSentence_1 h0L h0f rfl rfl (by omega) (Nat.le_refl _) (Nat.le_refl _) (Nat.le_of_ble_eq_true rfl) rfl (fun r1 L1 f1 hR1 => ?_)
  obtain ⟨rfl, hL9, hf9⟩ := hR1
  rw [hL9, hf9]
  clear hL9 hf9
  refine C.iload_n dX8_needSentence_4 rfl ?_
  refine C.if_ltI (tgt := 19) dX8_needSentence_5 (by decide) (by omega) (fun hc5 => absurd hc5 (by omega)) (fun hc5 => ?_)
  refine C.iload_n dX8_needSentence_8 rfl ?_
  refine C.aload_n dX8_needSentence_9 rfl ?_
  refine C.getf gf_X8_37 dX8_needSentence_10 h0L h0f rfl ?_
  refine C.callV (M2) cw_X1_size ml_X8_83 im_X1_size sl_X1_size dX8_needSentence_13 h15L h15f rfl rfl (by omega) (Nat.le_refl _) (Nat.le_refl _) (Nat.le_of_ble_eq_true rfl) rfl (fun r13 L13 f13 hR13 => ?_)
  obtain ⟨rfl, hL9, hf9⟩ := hR13
  rw [hL9, hf9]
  clear hL9 hf9
  refine C.icmp_ltI (tgt := 29) dX8_needSentence_16 (by decide) (by omega) (by omega) (fun hc16 => ?_) (fun hc16 => absurd hc16 (by omega))
  refine C.vret rfl dX8_needSentence_29 (Nat.le_refl _) (Nat.le_refl _) ⟨rfl, rfl, rfl⟩
  skip
/-- a turn was done, or not -/
def TnPo (L : List Nat) (f : Nat → AC) (c : SF) (a : SA) (xs : List Sen) (b : Bool) (ys' : List Sen) : AT := fun r L' f' => ∃ c', KJ L' f' c' a xs ys' ∧ r = some (.int (iI (b2i b))) ∧ c' 7 = c 7 + b2i b ∧ (∀ j, j < 140 → j ≠ 7 → c' j = c j) ∧ FM L f L' f'
theorem tn_end {L1 : List Nat} {f1 : Nat → AC} {e' : Nat} {ps' : List (Nat × Sen)} {b : Bool} {ys' : List Sen} (h : KI L f c a e4 e13 e15 po pn) (hps : ps'.map (fun p => p.2) = ys') (hA : LtAt L1 f1 15 e' ps') (hF : FqL 16 e15 L f L1 f1) (he : e' = e15 ∨ (e' ∉ L ∧ 2000 ≤ e')) : ∃ c1, f1 = kv c1 a f1 ∧ (∀ k, k < 36 → k ∈ L1) ∧ f1 0 = .inr (10, ko0 c1) ∧ TnPo L f c a (po.map (fun p => p.2)) b ys' (some (.int (iI (b2i b)))) L1 (kv (if b then va_up c1 7 (c1 7 + 1) else c1) a f1) := by
  obtain ⟨c1, hK1, hj, hM⟩ := h.up15 hA hF he
  refine ⟨c1, hK1.1.1, hK1.1.2.1, hK1.o0.2, ?_⟩
  cases b with
  | false =>
    rw [if_neg (by decide), ← hK1.1.1]
    exact ⟨c1, ⟨e4, e13, e', po, ps', hK1, rfl, hps⟩, rfl, by rw [hj 7 (by omega)]; show c 7 = c 7 + 0; omega, fun j h1 h2 => hj j (by omega), hM⟩
  | true =>
    rw [if_pos rfl]
    have hG : Gk c1 (va_up c1 7 (c1 7 + 1)) a a := ⟨fun j _ _ h7 _ _ _ => va_up_ne _ _ h7, fun _ _ _ => rfl⟩
    obtain ⟨hK2, hM2⟩ := hK1.gk hG
    exact ⟨_, ⟨e4, e13, e', po, ps', hK2, rfl, hps⟩, rfl, by rw [va_up_self, hj 7 (by omega)]; rfl, fun j h1 h2 => by rw [va_up_ne _ _ h2]; exact hj j (by omega), hM.tr hM2⟩
set_option maxHeartbeats 1000000 in
theorem p_part {i : Nat} {p : Nat × Sen} (hd : 8 ≤ d) (h : KI L f c a e4 e13 e15 po pn) (h6 : 0 < c 6 ∧ c 6 < 100000) (hl : pn.length ≤ 24) (hp : pn[i]? = some p) : AM yX8_part cX8_part 2 (some .boolean) d 9 150 [.ref 0, .int (iI i)] L f (TnPo L f c a (po.map (fun p => p.2)) (canP pn.length p.2) (if canP pn.length p.2 then prt (pn.map (fun p => p.2)) i p.2 else pn.map (fun p => p.2))) := by
  obtain ⟨h0L, h0f⟩ := h.o0
  have hi : i < pn.length := (List.getElem?_eq_some_iff.mp hp).1
  have M1 := p_needSentence (d := d - 1) (by omega) h h6 hi hl
  have M2 := t_partAt (d := d - 1) (by omega) h.2.1.2.2 hp hl
  obtain ⟨-, h15L, h15f⟩ := h.2.1.2.2.1
  refine AM.of (by decide +kernel) (by simp [Value.category]) (Nat.le_of_ble_eq_true rfl) false (fun h => by cases h) (fun X C => ?_)
  refine C.aload_n dX8_part_0 rfl ?_
  refine C.iload_n dX8_part_1 rfl ?_
  refine C.callV (M1) cw_X8_needSentence ml_X8_85 im_X8_needSentence sl_X8_needSentence dX8_part_2 h0L h0f rfl rfl (by omega) (Nat.zero_le _) (Nat.zero_le _) (Nat.le_of_ble_eq_true rfl) rfl (fun r2 L2 f2 hR2 => ?_)
  obtain ⟨rfl, hL9, hf9⟩ := hR2
  rw [hL9, hf9]
  clear hL9 hf9
  refine C.aload_n dX8_part_5 rfl ?_
  refine C.aload_n dX8_part_6 rfl ?_
  refine C.getf gf_X8_37 dX8_part_7 h0L h0f rfl ?_
  refine C.iload_n dX8_part_10 rfl ?_
  refine C.callV (M2) cw_X1_partAt ml_X8_88 im_X1_partAt sl_X1_partAt dX8_part_11 h15L h15f rfl rfl (by omega) (by omega) (by omega) (Nat.le_of_ble_eq_true rfl) rfl (fun r11 L11 f11 hR11 => ?_)
  obtain ⟨rfl, e', ps', hps, hA, hF, he⟩ := hR11
  obtain ⟨c1, hK1, hL1, h0f1, hP⟩ := tn_end (b := (canP pn.length p.2)) h hps hA hF he
  skip
  have M3 := (k8_tallied (d := d - 1) (g := f11) (b := (canP pn.length p.2)) (a := a) hL1).at hK1
  refine C.callV (M3) cw_X8_tallied ml_X8_91 im_X8_tallied sl_X8_tallied dX8_part_14 (hL1 0 (by omega)) h0f1 rfl rfl (by omega) (by omega) (by omega) (Nat.le_of_ble_eq_true rfl) rfl (fun r14 L14 f14 hR14 => ?_)
  obtain ⟨c9, a9, ⟨rfl, hc9, ha9⟩, rfl, hf9⟩ := hR14
  rw [hf9, hc9, ha9]
  refine C.retI rfl (iI_bool (b2i_01 _)).1 dX8_part_17 (by omega) (by omega) hP
  skip
set_option maxHeartbeats 1000000 in
theorem p_turn {i : Nat} {p : Nat × Sen} (hd : 5 ≤ d) (h : KI L f c a e4 e13 e15 po pn) (h6 : 0 < c 6 ∧ c 6 < 100000) (hl : pn.length ≤ 24) (hp : pn[i]? = some p) : AM yX8_turn cX8_turn 2 (some .boolean) d 1 7 [.ref 0, .int (iI i)] L f (TnPo L f c a (po.map (fun p => p.2)) (canT p.2) (if canT p.2 then (pn.map (fun p => p.2)).set i (trn p.2) else pn.map (fun p => p.2))) := by
  obtain ⟨h0L, h0f⟩ := h.o0
  have hi : i < pn.length := (List.getElem?_eq_some_iff.mp hp).1
  have M1 := p_needSentence (d := d - 1) (by omega) h h6 hi hl
  have M2 := t_turnAt (d := d - 1) (by omega) h.2.1.2.2 hp
  obtain ⟨-, h15L, h15f⟩ := h.2.1.2.2.1
  refine AM.of (by decide +kernel) (by simp [Value.category]) (Nat.le_of_ble_eq_true rfl) false (fun h => by cases h) (fun X C => ?_)
  refine C.aload_n dX8_turn_0 rfl ?_
  refine C.iload_n dX8_turn_1 rfl ?_
  refine C.callV (M1) cw_X8_needSentence ml_X8_85 im_X8_needSentence sl_X8_needSentence dX8_turn_2 h0L h0f rfl rfl (by omega) (Nat.zero_le _) (Nat.zero_le _) (Nat.le_of_ble_eq_true rfl) rfl (fun r2 L2 f2 hR2 => ?_)
  obtain ⟨rfl, hL9, hf9⟩ := hR2
  rw [hL9, hf9]
  clear hL9 hf9
  refine C.aload_n dX8_turn_5 rfl ?_
  refine C.aload_n dX8_turn_6 rfl ?_
  refine C.getf gf_X8_37 dX8_turn_7 h0L h0f rfl ?_
  refine C.iload_n dX8_turn_10 rfl ?_
  refine C.callV (M2) cw_X1_turnAt ml_X8_98 im_X1_turnAt sl_X1_turnAt dX8_turn_11 h15L h15f rfl rfl (by omega) (by omega) (by omega) (Nat.le_of_ble_eq_true rfl) rfl (fun r11 L11 f11 hR11 => ?_)
  obtain ⟨rfl, e', ps', hps, hA, hF, he⟩ := hR11
  obtain ⟨c1, hK1, hL1, h0f1, hP⟩ := tn_end (b := (canT p.2)) h hps hA hF he
  skip
  have M3 := (k8_tallied (d := d - 1) (g := f11) (b := (canT p.2)) (a := a) hL1).at hK1
  refine C.callV (M3) cw_X8_tallied ml_X8_91 im_X8_tallied sl_X8_tallied dX8_turn_14 (hL1 0 (by omega)) h0f1 rfl rfl (by omega) (by omega) (by omega) (Nat.le_of_ble_eq_true rfl) rfl (fun r14 L14 f14 hR14 => ?_)
  obtain ⟨c9, a9, ⟨rfl, hc9, ha9⟩, rfl, hf9⟩ := hR14
  rw [hf9, hc9, ha9]
  refine C.retI rfl (iI_bool (b2i_01 _)).1 dX8_turn_17 (by omega) (by omega) hP
  skip
set_option maxHeartbeats 1000000 in
theorem p_ease {i : Nat} {p : Nat × Sen} {N : Nat} (hN : N < 900) (hd : 37 ≤ d) (h : KI L f c a e4 e13 e15 po pn) (h6 : 0 < c 6 ∧ c 6 < 100000) (hl : pn.length ≤ 24) (hp : pn[i]? = some p) (hlv : lvs (ezT p.2.2.2.1 p.2.2.2.2) ≤ N) (hlen : (cdO (ezO p.2.2.2.1 p.2.2.2.2)).length ≤ 400) : AM yX8_ease cX8_ease 2 (some .boolean) d (kc (ezT p.2.2.2.1 p.2.2.2.2) + 7) (ks N (ezT p.2.2.2.1 p.2.2.2.2) + N + 24) [.ref 0, .int (iI i)] L f (TnPo L f c a (po.map (fun p => p.2)) (canE p.2) (if canE p.2 then (pn.map (fun p => p.2)).set i (ezS p.2) else pn.map (fun p => p.2))) := by
  obtain ⟨h0L, h0f⟩ := h.o0
  have hi : i < pn.length := (List.getElem?_eq_some_iff.mp hp).1
  have M1 := p_needSentence (d := d - 1) (by omega) h h6 hi hl
  have M2 := t_easeAt (d := d - 1) hN (by omega) h.2.1.2.2 hp hlv hlen
  obtain ⟨-, h15L, h15f⟩ := h.2.1.2.2.1
  refine AM.of (by decide +kernel) (by simp [Value.category]) (Nat.le_of_ble_eq_true rfl) false (fun h => by cases h) (fun X C => ?_)
  refine C.aload_n dX8_ease_0 rfl ?_
  refine C.iload_n dX8_ease_1 rfl ?_
  refine C.callV (M1) cw_X8_needSentence ml_X8_85 im_X8_needSentence sl_X8_needSentence dX8_ease_2 h0L h0f rfl rfl (by omega) (Nat.zero_le _) (Nat.zero_le _) (Nat.le_of_ble_eq_true rfl) rfl (fun r2 L2 f2 hR2 => ?_)
  obtain ⟨rfl, hL9, hf9⟩ := hR2
  rw [hL9, hf9]
  clear hL9 hf9
  refine C.aload_n dX8_ease_5 rfl ?_
  refine C.aload_n dX8_ease_6 rfl ?_
  refine C.getf gf_X8_37 dX8_ease_7 h0L h0f rfl ?_
  refine C.iload_n dX8_ease_10 rfl ?_
  refine C.callV (M2) cw_X1_easeAt ml_X8_101 im_X1_easeAt sl_X1_easeAt dX8_ease_11 h15L h15f rfl rfl (by omega) (by omega) (by omega) (Nat.le_of_ble_eq_true rfl) rfl (fun r11 L11 f11 hR11 => ?_)
  obtain ⟨rfl, e', ps', hps, hA, hF, he⟩ := hR11
  obtain ⟨c1, hK1, hL1, h0f1, hP⟩ := tn_end (b := (canE p.2)) h hps hA hF he
  skip
  have M3 := (k8_tallied (d := d - 1) (g := f11) (b := (canE p.2)) (a := a) hL1).at hK1
  refine C.callV (M3) cw_X8_tallied ml_X8_91 im_X8_tallied sl_X8_tallied dX8_ease_14 (hL1 0 (by omega)) h0f1 rfl rfl (by omega) (by omega) (by omega) (Nat.le_of_ble_eq_true rfl) rfl (fun r14 L14 f14 hR14 => ?_)
  obtain ⟨c9, a9, ⟨rfl, hc9, ha9⟩, rfl, hf9⟩ := hR14
  rw [hf9, hc9, ha9]
  refine C.retI rfl (iI_bool (b2i_01 _)).1 dX8_ease_17 (by omega) (by omega) hP
  skip
set_option maxHeartbeats 1000000 in
theorem p_melt {i : Nat} {p p2 : Nat × Sen} (hd : 32 ≤ d) (h : KI L f c a e4 e13 e15 po pn) (h6 : 0 < c 6 ∧ c 6 < 100000) (hl : pn.length ≤ 24) (hp : pn[i]? = some p) (hp2 : pn[i + 1]? = some p2) : AM yX8_melt cX8_melt 2 (some .boolean) d 2 13 [.ref 0, .int (iI i)] L f (TnPo L f c a (po.map (fun p => p.2)) (canM p.2 p2.2) (if canM p.2 p2.2 then mel (pn.map (fun p => p.2)) i p.2 p2.2 else pn.map (fun p => p.2))) := by
  obtain ⟨h0L, h0f⟩ := h.o0
  have hi : i < pn.length := (List.getElem?_eq_some_iff.mp hp).1
  have M1 := p_needSentence (d := d - 1) (by omega) h h6 hi hl
  have M2 := t_meltAt (d := d - 1) (by omega) h.2.1.2.2 hp hp2 hl
  obtain ⟨-, h15L, h15f⟩ := h.2.1.2.2.1
  refine AM.of (by decide +kernel) (by simp [Value.category]) (Nat.le_of_ble_eq_true rfl) false (fun h => by cases h) (fun X C => ?_)
  refine C.aload_n dX8_melt_0 rfl ?_
  refine C.iload_n dX8_melt_1 rfl ?_
  refine C.callV (M1) cw_X8_needSentence ml_X8_85 im_X8_needSentence sl_X8_needSentence dX8_melt_2 h0L h0f rfl rfl (by omega) (Nat.zero_le _) (Nat.zero_le _) (Nat.le_of_ble_eq_true rfl) rfl (fun r2 L2 f2 hR2 => ?_)
  obtain ⟨rfl, hL9, hf9⟩ := hR2
  rw [hL9, hf9]
  clear hL9 hf9
  refine C.aload_n dX8_melt_5 rfl ?_
  refine C.aload_n dX8_melt_6 rfl ?_
  refine C.getf gf_X8_37 dX8_melt_7 h0L h0f rfl ?_
  refine C.iload_n dX8_melt_10 rfl ?_
  refine C.callV (M2) cw_X1_meltAt ml_X8_95 im_X1_meltAt sl_X1_meltAt dX8_melt_11 h15L h15f rfl rfl (by omega) (by omega) (by omega) (Nat.le_of_ble_eq_true rfl) rfl (fun r11 L11 f11 hR11 => ?_)
  obtain ⟨rfl, e', ps', hps, hA, hF, he⟩ := hR11
  obtain ⟨c1, hK1, hL1, h0f1, hP⟩ := tn_end (b := (canM p.2 p2.2)) h hps hA hF he
  skip
  have M3 := (k8_tallied (d := d - 1) (g := f11) (b := (canM p.2 p2.2)) (a := a) hL1).at hK1
  refine C.callV (M3) cw_X8_tallied ml_X8_91 im_X8_tallied sl_X8_tallied dX8_melt_14 (hL1 0 (by omega)) h0f1 rfl rfl (by omega) (by omega) (by omega) (Nat.le_of_ble_eq_true rfl) rfl (fun r14 L14 f14 hR14 => ?_)
  obtain ⟨c9, a9, ⟨rfl, hc9, ha9⟩, rfl, hf9⟩ := hR14
  rw [hf9, hc9, ha9]
  refine C.retI rfl (iI_bool (b2i_01 _)).1 dX8_melt_17 (by omega) (by omega) hP
  skip
theorem p_meltL {i : Nat} (hd : 3 ≤ d) (h : KI L f c a e4 e13 e15 po pn) (h6 : 0 < c 6 ∧ c 6 < 100000) (hl : pn.length ≤ 24) (hi : i + 1 = pn.length) : AM yX8_melt cX8_melt 2 (some .boolean) d 0 0 [.ref 0, .int (iI i)] L f (SP (some (.int (iI 0))) L f) := by
  obtain ⟨h0L, h0f⟩ := h.o0
  have M1 := p_needSentence (d := d - 1) (i := i) (by omega) h h6 (by omega) hl
  have M2 := t_meltL (d := d - 1) (by omega) h.2.1.2.2 hi hl
  have M3 := (k8_tallied (d := d - 1) (g := f) (b := false) (a := a) h.1.2.1).at h.1.1
  obtain ⟨-, h15L, h15f⟩ := h.2.1.2.2.1
  refine AM.of (by decide +kernel) (by simp [Value.category]) (Nat.le_of_ble_eq_true rfl) false (fun h => by cases h) (fun X C => ?_)
  refine C.aload_n dX8_melt_0 rfl ?_
  refine C.iload_n dX8_melt_1 rfl ?_
  refine C.callV (M1) cw_X8_needSentence ml_X8_85 im_X8_needSentence sl_X8_needSentence dX8_melt_2 h0L h0f rfl rfl (by omega) (Nat.le_refl _) (Nat.le_refl _) (Nat.le_of_ble_eq_true rfl) rfl (fun r2 L2 f2 hR2 => ?_)
  obtain ⟨rfl, hL9, hf9⟩ := hR2
  rw [hL9, hf9]
  clear hL9 hf9
  refine C.aload_n dX8_melt_5 rfl ?_
  refine C.aload_n dX8_melt_6 rfl ?_
  refine C.getf gf_X8_37 dX8_melt_7 h0L h0f rfl ?_
  refine C.iload_n dX8_melt_10 rfl ?_
  refine C.callV (M2) cw_X1_meltAt ml_X8_95 im_X1_meltAt sl_X1_meltAt dX8_melt_11 h15L h15f rfl rfl (by omega) (Nat.le_refl _) (Nat.le_refl _) (Nat.le_of_ble_eq_true rfl) rfl (fun r11 L11 f11 hR11 => ?_)
  obtain ⟨rfl, hL9, hf9⟩ := hR11
  rw [hL9, hf9]
  clear hL9 hf9
  refine C.callV (M3) cw_X8_tallied ml_X8_91 im_X8_tallied sl_X8_tallied dX8_melt_14 h0L h0f rfl rfl (by omega) (Nat.le_refl _) (Nat.le_refl _) (Nat.le_of_ble_eq_true rfl) rfl (fun r14 L14 f14 hR14 => ?_)
  obtain ⟨c9, a9, ⟨rfl, hc9, ha9⟩, rfl, hf9⟩ := hR14
  rw [hf9, hc9, ha9, if_neg (by decide), ← h.1.1]
  refine C.retI rfl (by first | rfl | (exact (iI_bool (by first | exact Or.inl rfl | exact Or.inr rfl | assumption)).1)) dX8_melt_17 (Nat.le_refl _) (Nat.le_refl _) ⟨rfl, rfl, rfl⟩
  skip
theorem p_again (hd : 10 ≤ d) (h : KI L f c a e4 e13 e15 po pn) (h6 : 0 < c 6 ∧ c 6 < 100000) (hl : po.length ≤ 24) : AM yX8_again cX8_again 1 none d po.length (40 * po.length) [.ref 0] L f (fun r L' f' => r = none ∧ ∃ c', KJ L' f' c' a (po.map (fun p => p.2)) (po.map (fun p => p.2)) ∧ (∀ j, j < 140 → c' j = c j) ∧ FM L f L' f') := by
  obtain ⟨h0L, h0f⟩ := h.o0
  have M1 := p_needLetter (d := d - 1) h h6
  have M2 := t_become (d := d - 1) (by omega) h.2.1.2.2 h.2.1.2.1 (by decide) (by decide) h.2.2.1.2.2 hl
  obtain ⟨-, h15L, h15f⟩ := h.2.1.2.2.1
  refine AM.of (by decide +kernel) (by simp [Value.category]) (Nat.le_of_ble_eq_true rfl) false (fun h => by cases h) (fun X C => ?_)
  refine C.aload_n dX8_again_0 rfl ?_
  refine C.callV (M1) cw_X8_needLetter ml_X8_104 im_X8_needLetter sl_X8_needLetter dX8_again_1 h0L h0f rfl rfl (by omega) (Nat.zero_le _) (Nat.zero_le _) (Nat.le_of_ble_eq_true rfl) rfl (fun r1 L1 f1 hR1 => ?_)
  obtain ⟨rfl, hL9, hf9⟩ := hR1
  rw [hL9, hf9]
  clear hL9 hf9
  refine C.aload_n dX8_again_4 rfl ?_
  refine C.getf gf_X8_37 dX8_again_5 h0L h0f rfl ?_
  refine C.aload_n dX8_again_8 rfl ?_
  refine C.getf gf_X8_33 dX8_again_9 h0L h0f rfl ?_
  refine C.callV (M2) cw_X1_become ml_X8_79 im_X1_become sl_X1_become dX8_again_12 h15L h15f rfl rfl (by omega) (by omega) (by omega) (Nat.le_of_ble_eq_true rfl) rfl (fun r12 L12 f12 hR12 => ?_)
  obtain ⟨rfl, e', ps', hps, hA, hF, he⟩ := hR12
  obtain ⟨c1, hK1, hj, hM⟩ := h.up15 hA hF he
  refine C.vret rfl dX8_again_15 (by omega) (by omega) ⟨rfl, c1, ⟨e4, e13, e', po, ps', hK1, rfl, hps⟩, fun j hj2 => hj j (by omega), hM⟩
  skip
theorem p_chosen {bo : Bool} (h : KI L f c a e4 e13 e15 po pn) : AM yX8_chosen cX8_chosen 2 (some (.object "PlainWords$Letter")) d 0 0 [.ref 0, .int (iI (b2i bo))] L f (SP (some (.ref (if bo then 13 else 15))) L f) := by
  obtain ⟨h0L, h0f⟩ := h.o0
  cases bo with
  | false =>
    refine AM.of (by decide +kernel) (by simp [Value.category]) (Nat.le_of_ble_eq_true rfl) false (fun h => by cases h) (fun X C => ?_)
    refine C.iload_n dX8_chosen_0 rfl ?_
    refine C.if_eqI (tgt := 11) dX8_chosen_1 (by decide) (by decide) (fun hc1 => ?_) (fun hc1 => absurd hc1 (by decide))
    refine C.aload_n dX8_chosen_11 rfl ?_
    refine C.getf gf_X8_37 dX8_chosen_12 h0L h0f rfl ?_
    refine C.aret rfl (Or.inl ⟨_, rfl⟩) dX8_chosen_15 (Nat.le_refl _) (Nat.le_refl _) ⟨rfl, rfl, rfl⟩
    skip
  | true =>
    refine AM.of (by decide +kernel) (by simp [Value.category]) (Nat.le_of_ble_eq_true rfl) false (fun h => by cases h) (fun X C => ?_)
    refine C.iload_n dX8_chosen_0 rfl ?_
    refine C.if_eqI (tgt := 11) dX8_chosen_1 (by decide) (by decide) (fun hc1 => absurd hc1 (by decide)) (fun hc1 => ?_)
    refine C.aload_n dX8_chosen_4 rfl ?_
    refine C.getf gf_X8_33 dX8_chosen_5 h0L h0f rfl ?_
    refine C.goto (tgt := 15) dX8_chosen_8 (by decide) ?_
    refine C.aret rfl (Or.inl ⟨_, rfl⟩) dX8_chosen_15 (Nat.le_refl _) (Nat.le_refl _) ⟨rfl, rfl, rfl⟩
    skip
theorem KI.ch (h : KI L f c a e4 e13 e15 po pn) (bo : Bool) : LtAt L f (if bo then 13 else 15) (if bo then e13 else e15) (if bo then po else pn) := by
  cases bo with
  | false => exact h.2.1.2.2
  | true => exact h.2.1.2.1
theorem p_cost {bo : Bool} (hd : 6 ≤ d) (h : KI L f c a e4 e13 e15 po pn) (h6 : 0 < c 6 ∧ c 6 < 100000) (ho : po.length ≤ 24) (hn : pn.length ≤ 24) : AM yX8_cost cX8_cost 2 (some .int) d 0 0 [.ref 0, .int (iI (b2i bo))] L f (SP (some (.int (iI (csL ((if bo then po else pn).map (fun p => p.2)))))) L f) := by
  obtain ⟨h0L, h0f⟩ := h.o0
  have M1 := p_needLetter (d := d - 1) h h6
  have M2 := p_chosen (d := d - 1) (bo := bo) h
  have hc := h.ch bo
  have M3 := t_price (d := d - 1) (by omega) hc (by cases bo <;> assumption)
  obtain ⟨-, hcL, hcf⟩ := hc.1
  refine AM.of (by decide +kernel) (by simp [Value.category]) (Nat.le_of_ble_eq_true rfl) false (fun h => by cases h) (fun X C => ?_)
  refine C.aload_n dX8_cost_0 rfl ?_
  refine C.callV (M1) cw_X8_needLetter ml_X8_104 im_X8_needLetter sl_X8_needLetter dX8_cost_1 h0L h0f rfl rfl (by omega) (Nat.le_refl _) (Nat.le_refl _) (Nat.le_of_ble_eq_true rfl) rfl (fun r1 L1 f1 hR1 => ?_)
  obtain ⟨rfl, hL9, hf9⟩ := hR1
  rw [hL9, hf9]
  clear hL9 hf9
  refine C.aload_n dX8_cost_4 rfl ?_
  refine C.iload_n dX8_cost_5 rfl ?_
  refine C.callV (M2) cw_X8_chosen ml_X8_113 im_X8_chosen sl_X8_chosen dX8_cost_6 h0L h0f rfl rfl (by omega) (Nat.le_refl _) (Nat.le_refl _) (Nat.le_of_ble_eq_true rfl) rfl (fun r6 L6 f6 hR6 => ?_)
  obtain ⟨rfl, hL9, hf9⟩ := hR6
  rw [hL9, hf9]
  clear hL9 hf9
  refine C.callV (M3) cw_X1_price ml_X8_110 im_X1_price sl_X1_price dX8_cost_9 hcL hcf rfl rfl (by omega) (Nat.le_refl _) (Nat.le_refl _) (Nat.le_of_ble_eq_true rfl) rfl (fun r9 L9 f9 hR9 => ?_)
  obtain ⟨rfl, hL9, hf9⟩ := hR9
  rw [hL9, hf9]
  clear hL9 hf9
  refine C.retI rfl (by first | rfl | (exact (iI_bool (by first | exact Or.inl rfl | exact Or.inr rfl | assumption)).1)) dX8_cost_12 (Nat.le_refl _) (Nat.le_refl _) ⟨rfl, rfl, rfl⟩
  skip
theorem p_ask {bo : Bool} {wh ac cs : Int} (hd : 6 ≤ d) (i1 : i3 wh) (i2 : i3 ac) (i4 : i3 cs) (h : KI L f c a e4 e13 e15 po pn) (h6 : 0 < c 6 ∧ c 6 < 100000) (ho : po.length ≤ 24) (hn : pn.length ≤ 24) : AM yX8_ask cX8_ask 5 (some .int) d 0 0 [.ref 0, .int (iI (b2i bo)), .int (iI wh), .int (iI ac), .int (iI cs)] L f (SP (some (.int (iI (((if bo then po else pn).map (fun p => p.2)).foldl (akS wh ac cs) 0)))) L f) := by
  obtain ⟨h0L, h0f⟩ := h.o0
  have M1 := p_needLetter (d := d - 1) h h6
  have M2 := p_chosen (d := d - 1) (bo := bo) h
  have hc := h.ch bo
  have M3 := t_modesAsked (d := d - 1) (by omega) i1 i2 i4 hc (by cases bo <;> assumption)
  obtain ⟨-, hcL, hcf⟩ := hc.1
  refine AM.of (by decide +kernel) (by simp [Value.category]) (Nat.le_of_ble_eq_true rfl) false (fun h => by cases h) (fun X C => ?_)
  refine C.aload_n dX8_ask_0 rfl ?_
  refine C.callV (M1) cw_X8_needLetter ml_X8_104 im_X8_needLetter sl_X8_needLetter dX8_ask_1 h0L h0f rfl rfl (by omega) (Nat.le_refl _) (Nat.le_refl _) (Nat.le_of_ble_eq_true rfl) rfl (fun r1 L1 f1 hR1 => ?_)
  obtain ⟨rfl, hL9, hf9⟩ := hR1
  rw [hL9, hf9]
  clear hL9 hf9
  refine C.aload_n dX8_ask_4 rfl ?_
  refine C.iload_n dX8_ask_5 rfl ?_
  refine C.callV (M2) cw_X8_chosen ml_X8_113 im_X8_chosen sl_X8_chosen dX8_ask_6 h0L h0f rfl rfl (by omega) (Nat.le_refl _) (Nat.le_refl _) (Nat.le_of_ble_eq_true rfl) rfl (fun r6 L6 f6 hR6 => ?_)
  obtain ⟨rfl, hL9, hf9⟩ := hR6
  rw [hL9, hf9]
  clear hL9 hf9
  refine C.iload_n dX8_ask_9 rfl ?_
  refine C.iload_n dX8_ask_10 rfl ?_
  refine C.iload dX8_ask_11 rfl ?_
  refine C.callV (M3) cw_X1_modesAsked ml_X8_149 im_X1_modesAsked sl_X1_modesAsked dX8_ask_13 hcL hcf rfl rfl (by omega) (Nat.le_refl _) (Nat.le_refl _) (Nat.le_of_ble_eq_true rfl) rfl (fun r13 L13 f13 hR13 => ?_)
  obtain ⟨rfl, hL9, hf9⟩ := hR13
  rw [hL9, hf9]
  clear hL9 hf9
  refine C.retI rfl (by first | rfl | (exact (iI_bool (by first | exact Or.inl rfl | exact Or.inr rfl | assumption)).1)) dX8_ask_16 (Nat.le_refl _) (Nat.le_refl _) ⟨rfl, rfl, rfl⟩
  skip
theorem p_days {wh ac cs : Int} (hd : 6 ≤ d) (i1 : i3 wh) (i2 : i3 ac) (i4 : i3 cs) (h : KI L f c a e4 e13 e15 po pn) (h6 : 0 < c 6 ∧ c 6 < 100000) (hn : pn.length ≤ 24) : AM yX8_days cX8_days 4 (some .int) d 0 0 [.ref 0, .int (iI wh), .int (iI ac), .int (iI cs)] L f (SP (some (.int (iI ((pn.map (fun p => p.2)).foldl (dyS wh ac cs) (-1))))) L f) := by
  obtain ⟨h0L, h0f⟩ := h.o0
  have M1 := p_needLetter (d := d - 1) h h6
  have M3 := t_leastDays (d := d - 1) (by omega) i1 i2 i4 h.2.1.2.2 hn
  obtain ⟨-, hcL, hcf⟩ := h.2.1.2.2.1
  refine AM.of (by decide +kernel) (by simp [Value.category]) (Nat.le_of_ble_eq_true rfl) false (fun h => by cases h) (fun X C => ?_)
  refine C.aload_n dX8_days_0 rfl ?_
  refine C.callV (M1) cw_X8_needLetter ml_X8_104 im_X8_needLetter sl_X8_needLetter dX8_days_1 h0L h0f rfl rfl (by omega) (Nat.le_refl _) (Nat.le_refl _) (Nat.le_of_ble_eq_true rfl) rfl (fun r1 L1 f1 hR1 => ?_)
  obtain ⟨rfl, hL9, hf9⟩ := hR1
  rw [hL9, hf9]
  clear hL9 hf9
  refine C.aload_n dX8_days_4 rfl ?_
  refine C.getf gf_X8_37 dX8_days_5 h0L h0f rfl ?_
  refine C.iload_n dX8_days_8 rfl ?_
  refine C.iload_n dX8_days_9 rfl ?_
  refine C.iload_n dX8_days_10 rfl ?_
  refine C.callV (M3) cw_X1_leastDays ml_X8_153 im_X1_leastDays sl_X1_leastDays dX8_days_11 hcL hcf rfl rfl (by omega) (Nat.le_refl _) (Nat.le_refl _) (Nat.le_of_ble_eq_true rfl) rfl (fun r11 L11 f11 hR11 => ?_)
  obtain ⟨rfl, hL9, hf9⟩ := hR11
  rw [hL9, hf9]
  clear hL9 hf9
  refine C.retI rfl (by first | rfl | (exact (iI_bool (by first | exact Or.inl rfl | exact Or.inr rfl | assumption)).1)) dX8_days_14 (Nat.le_refl _) (Nat.le_refl _) ⟨rfl, rfl, rfl⟩
  skip
theorem p_look {i : Nat} {p : Nat × Sen} {z : Int} (hd : 5 ≤ d) (h : KI L f c a e4 e13 e15 po pn) (h6 : 0 < c 6 ∧ c 6 < 100000) (hn : pn.length ≤ 24) (hp : pn[i]? = some p) (hz : 0 ≤ z ∧ z ≤ 8) : AM yX8_look cX8_look 3 (some .int) d 0 0 [.ref 0, .int (iI i), .int (iI z)] L f (SP (some (.int (iI (lkV p.2 z)))) L f) := by
  obtain ⟨h0L, h0f⟩ := h.o0
  have hi : i < pn.length := (List.getElem?_eq_some_iff.mp hp).1
  have M1 := p_needSentence (d := d - 1) (by omega) h h6 hi hn
  have M2 := t_at (d := d - 1) (by omega) h.2.1.2.2 hp
  have hpw := h.2.1.2.2.2.2 p (List.mem_of_getElem? hp)
  have M3 := s_trait (d := d - 1) (by omega) hz hpw.a29.1 hpw.a29.2
  obtain ⟨hpL, -, fs, hfp⟩ := hpw.obj
  obtain ⟨-, hcL, hcf⟩ := h.2.1.2.2.1
  refine AM.of (by decide +kernel) (by simp [Value.category]) (Nat.le_of_ble_eq_true rfl) false (fun h => by cases h) (fun X C => ?_)
  refine C.aload_n dX8_look_0 rfl ?_
  refine C.iload_n dX8_look_1 rfl ?_
  refine C.callV (M1) cw_X8_needSentence ml_X8_85 im_X8_needSentence sl_X8_needSentence dX8_look_2 h0L h0f rfl rfl (by omega) (Nat.le_refl _) (Nat.le_refl _) (Nat.le_of_ble_eq_true rfl) rfl (fun r2 L2 f2 hR2 => ?_)
  obtain ⟨rfl, hL9, hf9⟩ := hR2
  rw [hL9, hf9]
  clear hL9 hf9
  refine C.iload_n dX8_look_5 rfl ?_
  refine C.if_ltI (tgt := 15) dX8_look_6 (by decide) (by omega) (fun hc6 => absurd hc6 (by omega)) (fun hc6 => ?_)
  refine C.iload_n dX8_look_9 rfl ?_
  refine C.bi dX8_look_10 (by decide) ?_
  refine C.icmp_leI (tgt := 25) dX8_look_12 (by decide) (by omega) (by omega) (fun hc12 => ?_) (fun hc12 => absurd hc12 (by omega))
  refine C.aload_n dX8_look_25 rfl ?_
  refine C.getf gf_X8_37 dX8_look_26 h0L h0f rfl ?_
  refine C.iload_n dX8_look_29 rfl ?_
  refine C.callV (M2) cw_X1_at ml_X8_122 im_X1_at sl_X1_at dX8_look_30 hcL hcf rfl rfl (by omega) (Nat.le_refl _) (Nat.le_refl _) (Nat.le_of_ble_eq_true rfl) rfl (fun r30 L30 f30 hR30 => ?_)
  obtain ⟨rfl, hL9, hf9⟩ := hR30
  rw [hL9, hf9]
  clear hL9 hf9
  refine C.iload_n dX8_look_33 rfl ?_
  refine C.callV (M3) cw_X3_trait ml_X8_126 im_X3_trait sl_X3_trait dX8_look_34 hpL hfp rfl rfl (by omega) (Nat.le_refl _) (Nat.le_refl _) (Nat.le_of_ble_eq_true rfl) rfl (fun r34 L34 f34 hR34 => ?_)
  obtain ⟨rfl, hL9, hf9⟩ := hR34
  rw [hL9, hf9]
  clear hL9 hf9
  refine C.retI rfl (by first | rfl | (exact (iI_bool (by first | exact Or.inl rfl | exact Or.inr rfl | assumption)).1)) dX8_look_37 (Nat.le_refl _) (Nat.le_refl _) ⟨rfl, rfl, rfl⟩
  skip
theorem p_same (hd : 7 ≤ d) (h : KI L f c a e4 e13 e15 po pn) (h6 : 0 < c 6 ∧ c 6 < 100000) (ho : po.length ≤ 24) (hn : pn.length ≤ 24) : AM yX8_same cX8_same 1 (some .boolean) d 0 0 [.ref 0] L f (fun r L' f' => (∃ B : Bool, r = some (.int (iI (b2i B))) ∧ (B = true ↔ wiN (po.map (fun p => p.2)) (pn.map (fun p => p.2)) ∧ wiN (pn.map (fun p => p.2)) (po.map (fun p => p.2)))) ∧ L' = L ∧ f' = f) := by
  obtain ⟨h0L, h0f⟩ := h.o0
  have M1 := p_needLetter (d := d - 1) h h6
  have M2 := t_isWithin (d := d - 1) (by omega) h.2.1.2.1 ho h.2.1.2.2 hn
  have M3 := t_isWithin (d := d - 1) (by omega) h.2.1.2.2 hn h.2.1.2.1 ho
  obtain ⟨-, hnL, hnf⟩ := h.2.1.2.2.1
  obtain ⟨-, hoL, hof⟩ := h.2.1.2.1.1
  refine AM.of (by decide +kernel) (by simp [Value.category]) (Nat.le_of_ble_eq_true rfl) false (fun h => by cases h) (fun X C => ?_)
  refine C.aload_n dX8_same_0 rfl ?_
  refine C.callV (M1) cw_X8_needLetter ml_X8_104 im_X8_needLetter sl_X8_needLetter dX8_same_1 h0L h0f rfl rfl (by omega) (Nat.le_refl _) (Nat.le_refl _) (Nat.le_of_ble_eq_true rfl) rfl (fun r1 L1 f1 hR1 => ?_)
  obtain ⟨rfl, hL9, hf9⟩ := hR1
  rw [hL9, hf9]
  clear hL9 hf9
  refine C.aload_n dX8_same_4 rfl ?_
  refine C.getf gf_X8_33 dX8_same_5 h0L h0f rfl ?_
  refine C.aload_n dX8_same_8 rfl ?_
  refine C.getf gf_X8_37 dX8_same_9 h0L h0f rfl ?_
  refine C.callV (M2) cw_X1_isWithin ml_X8_132 im_X1_isWithin sl_X1_isWithin dX8_same_12 hoL hof rfl rfl (by omega) (Nat.le_refl _) (Nat.le_refl _) (Nat.le_of_ble_eq_true rfl) rfl (fun r12 L12 f12 hR12 => ?_)
  obtain ⟨⟨B1, rfl, hB1⟩, hL9, hf9⟩ := hR12
  rw [hL9, hf9]
  clear hL9 hf9
  refine C.if_eqI (tgt := 36) dX8_same_15 (by decide) (b2i_r3 _) (fun hc15 => ?_) (fun hc15 => ?_)
  · refine C.ic dX8_same_36 ?_
    first
      | (refine C.topI (b := b2i (B1 && B2)) (by first | exact an3 hc15 hc29 | exact an2 hc15 hc29) ?_
         refine C.retI rfl (iI_bool (b2i_01 _)).1 dX8_same_37 (Nat.le_refl _) (Nat.le_refl _) ⟨⟨B1 && B2, rfl, ?_⟩, rfl, rfl⟩
         rw [Bool.and_eq_true, hB1, hB2])
      | (refine C.retI rfl rfl dX8_same_37 (Nat.le_refl _) (Nat.le_refl _) ⟨⟨false, rfl, ⟨(fun q => by cases q), fun q => ?_⟩⟩, rfl, rfl⟩
         have := hB1.mpr q.1
         rw [b2i_f hc15] at this
         cases this)
  · refine C.aload_n dX8_same_18 rfl ?_
    refine C.getf gf_X8_37 dX8_same_19 h0L h0f rfl ?_
    refine C.aload_n dX8_same_22 rfl ?_
    refine C.getf gf_X8_33 dX8_same_23 h0L h0f rfl ?_
    refine C.callV (M3) cw_X1_isWithin ml_X8_132 im_X1_isWithin sl_X1_isWithin dX8_same_26 hnL hnf rfl rfl (by omega) (Nat.le_refl _) (Nat.le_refl _) (Nat.le_of_ble_eq_true rfl) rfl (fun r26 L26 f26 hR26 => ?_)
    obtain ⟨⟨B2, rfl, hB2⟩, hL9, hf9⟩ := hR26
    rw [hL9, hf9]
    clear hL9 hf9
    refine C.if_eqI (tgt := 36) dX8_same_29 (by decide) (b2i_r3 _) (fun hc29 => ?_) (fun hc29 => ?_)
    · refine C.ic dX8_same_36 ?_
      first
        | (refine C.topI (b := b2i (B1 && B2)) (by first | exact an3 hc15 hc29 | exact an2 hc15 hc29) ?_
           refine C.retI rfl (iI_bool (b2i_01 _)).1 dX8_same_37 (Nat.le_refl _) (Nat.le_refl _) ⟨⟨B1 && B2, rfl, ?_⟩, rfl, rfl⟩
           rw [Bool.and_eq_true, hB1, hB2])
        | (refine C.retI rfl rfl dX8_same_37 (Nat.le_refl _) (Nat.le_refl _) ⟨⟨false, rfl, ⟨(fun q => by cases q), fun q => ?_⟩⟩, rfl, rfl⟩
           have := hB1.mpr q.1
           rw [b2i_f hc15] at this
           cases this)
    · refine C.ic dX8_same_32 ?_
      refine C.goto (tgt := 37) dX8_same_33 (by decide) ?_
      first
        | (refine C.topI (b := b2i (B1 && B2)) (by first | exact an3 hc15 hc29 | exact an2 hc15 hc29) ?_
           refine C.retI rfl (iI_bool (b2i_01 _)).1 dX8_same_37 (Nat.le_refl _) (Nat.le_refl _) ⟨⟨B1 && B2, rfl, ?_⟩, rfl, rfl⟩
           rw [Bool.and_eq_true, hB1, hB2])
        | (refine C.retI rfl rfl dX8_same_37 (Nat.le_refl _) (Nat.le_refl _) ⟨⟨false, rfl, ⟨(fun q => by cases q), fun q => ?_⟩⟩, rfl, rfl⟩
           have := hB1.mpr q.1
           rw [b2i_f hc15] at this
           cases this)
theorem p_plainest {N : Nat} (hN : N < 900) (hd : 43 ≤ d) (h : KI L f c a e4 e13 e15 po pn) (h6 : 0 < c 6 ∧ c 6 < 100000) (ho : po.length ≤ 8) (hlv : ∀ p ∈ po, lvs (ezT p.2.2.2.1 p.2.2.2.2) ≤ N) (hlen : ∀ p ∈ po, (cdO (ezO p.2.2.2.1 p.2.2.2.2)).length ≤ 400) : AM yX8_plainest cX8_plainest 1 (some .int) d ((po.map (fun p => cE p.2)).sum) ((po.map (fun p => sE N p.2)).sum) [.ref 0] L f (fun r L' f' => r = some (.int (iI (csL ((po.map (fun p => p.2)).flatMap plL)))) ∧ ∃ c', KJ L' f' c' a (po.map (fun p => p.2)) ((po.map (fun p => p.2)).flatMap plL) ∧ (∀ j, j < 140 → c' j = c j) ∧ FM L f L' f') := by
  obtain ⟨h0L, h0f⟩ := h.o0
  have M1 := p_needLetter (d := d - 1) h h6
  have M2 := t_becomePlainest (d := d - 1) hN (by omega) h.2.1.2.2 h.2.1.2.1 (by decide) (by decide) h.2.2.1.2.2 ho hlv hlen
  obtain ⟨-, h15L, h15f⟩ := h.2.1.2.2.1
  refine AM.of (by decide +kernel) (by simp [Value.category]) (Nat.le_of_ble_eq_true rfl) false (fun h => by cases h) (fun X C => ?_)
  refine C.aload_n dX8_plainest_0 rfl ?_
  refine C.callV (M1) cw_X8_needLetter ml_X8_104 im_X8_needLetter sl_X8_needLetter dX8_plainest_1 h0L h0f rfl rfl (by omega) (Nat.zero_le _) (Nat.zero_le _) (Nat.le_of_ble_eq_true rfl) rfl (fun r1 L1 f1 hR1 => ?_)
  obtain ⟨rfl, hL9, hf9⟩ := hR1
  rw [hL9, hf9]
  clear hL9 hf9
  refine C.aload_n dX8_plainest_4 rfl ?_
  refine C.getf gf_X8_37 dX8_plainest_5 h0L h0f rfl ?_
  refine C.aload_n dX8_plainest_8 rfl ?_
  refine C.getf gf_X8_33 dX8_plainest_9 h0L h0f rfl ?_
  refine C.callV (M2) cw_X1_becomePlainest ml_X8_107 im_X1_becomePlainest sl_X1_becomePlainest dX8_plainest_12 h15L h15f rfl rfl (by omega) (by omega) (by omega) (Nat.le_of_ble_eq_true rfl) rfl (fun r12 L12 f12 hR12 => ?_)
  obtain ⟨rfl, e', ps', hps, hA, hF, he⟩ := hR12
  obtain ⟨c1, hK1, hj, hM⟩ := h.up15 hA hF he
  skip
  obtain ⟨h0L1, h0f1⟩ := hK1.o0
  have hpl : ps'.length ≤ 24 := by
    have h1 := congrArg List.length hps
    rw [List.length_map] at h1
    have h2 := flat_len (xs := po.map (fun p => p.2)) (fun x hx => by
      obtain ⟨q, hq, rfl⟩ := List.mem_map.mp hx
      exact (h.2.1.2.1.2.2 q hq).a29.2)
    rw [List.length_map] at h2
    omega
  have M3 := t_price (d := d - 1) (by omega) hA hpl
  rw [hps] at M3
  obtain ⟨-, h15L1, h15f1⟩ := hA.1
  refine C.aload_n dX8_plainest_15 rfl ?_
  refine C.getf gf_X8_37 dX8_plainest_16 h0L1 h0f1 rfl ?_
  refine C.callV (M3) cw_X1_price ml_X8_110 im_X1_price sl_X1_price dX8_plainest_19 h15L1 h15f1 rfl rfl (by omega) (by omega) (by omega) (Nat.le_of_ble_eq_true rfl) rfl (fun r19 L19 f19 hR19 => ?_)
  obtain ⟨rfl, hL9, hf9⟩ := hR19
  rw [hL9, hf9]
  clear hL9 hf9
  refine C.retI rfl (by first | rfl | (exact (iI_bool (by first | exact Or.inl rfl | exact Or.inr rfl | assumption)).1)) dX8_plainest_22 (by omega) (by omega) ⟨rfl, c1, ⟨e4, e13, e', po, ps', hK1, rfl, hps⟩, fun j hj2 => hj j (by omega), hM⟩
  skip
end PW
