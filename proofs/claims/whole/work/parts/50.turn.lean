/-- why a sentence is refused -/
def rfC (l n z : Int) : Int := if l = 0 then 1 else if 0 ≤ z ∧ z ≤ n - 1 then 0 else 2
theorem m_noSentence {d : Nat} (hd : 1 ≤ d) {sf : SF} {sa : SA} {z : Int} {n : Nat} (hz : i3 z) (h10 : sf 10 = n) (hn : n ≤ 24) : MM yX9_noSentence cX9_noSentence 2 (some .boolean) d [.int (iI z)] sf sa (fun r sf' sa' => r = some (.int (iI (if 0 ≤ z ∧ z ≤ (n : Int) - 1 then 0 else 1))) ∧ sf' = sf ∧ sa' = sa) := by
  refine MM.of2 (by decide +kernel) rfl (Nat.le_of_ble_eq_true rfl) (fun L g hL X C => ?_)
  by_cases hq : 0 ≤ z ∧ z ≤ (n : Int) - 1
  · refine C.iload_n dX9_noSentence_0 rfl ?_
    refine C.ic dX9_noSentence_1 ?_
    refine C.aload_n dX9_noSentence_2 rfl ?_
    refine C.mget hL gf_X9_232 dX9_noSentence_3 rfl ?_
    refine C.topI (b := (n : Int)) h10 ?_
    refine C.ic dX9_noSentence_6 ?_
    refine C.isubI dX9_noSentence_7 ?_
    refine C.callS (s_in (d := d - 1) (v := z) (lo := 0) (hi := (n : Int) - 1) hz ⟨by omega, by omega⟩ ⟨by omega, by omega⟩) cw_X9_in ml_X9_294 sm_X9_in dX9_noSentence_8 rfl (by omega) (Nat.le_refl _) (Nat.le_refl _) (Nat.le_of_ble_eq_true rfl) rfl (fun r L9 f9 h9 => ?_)
    obtain ⟨rfl, hL9, hf9⟩ := h9
    rw [hL9, hf9]
    clear hL9 hf9
    rw [decide_eq_true hq.1, decide_eq_true hq.2]
    refine C.if_neI (tgt := 18) dX9_noSentence_11 (by decide) (by decide) (fun hc11 => ?_) (fun hc11 => absurd hc11 (by decide))
    refine C.ic dX9_noSentence_18 ?_
    refine C.retI rfl (by first | rfl | (exact (iI_bool (by first | exact Or.inl rfl | exact Or.inr rfl | assumption)).1)) dX9_noSentence_19 (Nat.le_refl _) (Nat.le_refl _) ⟨_, _, ?_, rfl, rfl⟩
    exact ⟨by rw [if_pos hq], rfl, rfl⟩
  · refine C.iload_n dX9_noSentence_0 rfl ?_
    refine C.ic dX9_noSentence_1 ?_
    refine C.aload_n dX9_noSentence_2 rfl ?_
    refine C.mget hL gf_X9_232 dX9_noSentence_3 rfl ?_
    refine C.topI (b := (n : Int)) h10 ?_
    refine C.ic dX9_noSentence_6 ?_
    refine C.isubI dX9_noSentence_7 ?_
    refine C.callS (s_in (d := d - 1) (v := z) (lo := 0) (hi := (n : Int) - 1) hz ⟨by omega, by omega⟩ ⟨by omega, by omega⟩) cw_X9_in ml_X9_294 sm_X9_in dX9_noSentence_8 rfl (by omega) (Nat.le_refl _) (Nat.le_refl _) (Nat.le_of_ble_eq_true rfl) rfl (fun r L9 f9 h9 => ?_)
    obtain ⟨rfl, hL9, hf9⟩ := h9
    rw [hL9, hf9]
    clear hL9 hf9
    rw [show (decide (0 ≤ z) && decide (z ≤ (n : Int) - 1)) = false by simp only [Bool.and_eq_false_imp, decide_eq_true_eq, decide_eq_false_iff_not]; omega]
    refine C.if_neI (tgt := 18) dX9_noSentence_11 (by decide) (by decide) (fun hc11 => absurd hc11 (by decide)) (fun hc11 => ?_)
    refine C.ic dX9_noSentence_14 ?_
    refine C.goto (tgt := 19) dX9_noSentence_15 (by decide) ?_
    refine C.retI rfl (by first | rfl | (exact (iI_bool (by first | exact Or.inl rfl | exact Or.inr rfl | assumption)).1)) dX9_noSentence_19 (Nat.le_refl _) (Nat.le_refl _) ⟨_, _, ?_, rfl, rfl⟩
    exact ⟨by rw [if_neg hq], rfl, rfl⟩
theorem m_refuses {d : Nat} (hd : 2 ≤ d) {sf : SF} {sa : SA} {z : Int} {n : Nat} (hz : i3 z) (h13 : sf 13 = 0 ∨ sf 13 = 1) (h10 : sf 10 = n) (hn : n ≤ 24) : MM yX9_refuses cX9_refuses 2 (some .boolean) d [.int (iI z)] sf sa (fun r sf' sa' => r = some (.int (iI (if rfC (sf 13) n z = 0 then 0 else 1))) ∧ sf' = (if rfC (sf 13) n z = 0 then sf else va_up sf 0 (rfC (sf 13) n z)) ∧ sa' = sa) := by
  rcases h13 with h13 | h13
  · have hT := m_throwsIf (d := d - 1) (sf := sf) (sa := sa) (b := 1) (z := 1) (Or.inr rfl)
    rw [if_neg (by decide)] at hT
    have hr : rfC (sf 13) n z = 1 := if_pos h13
    refine MM.of2 (by decide +kernel) rfl (Nat.le_of_ble_eq_true rfl) (fun L g hL X C => ?_)
    refine C.aload_n dX9_refuses_0 rfl ?_
    refine C.aload_n dX9_refuses_1 rfl ?_
    refine C.mget hL gf_X9_219 dX9_refuses_2 rfl ?_
    refine C.topI (b := 0) h13 ?_
    refine C.if_neI (tgt := 12) dX9_refuses_5 (by decide) (by omega) (fun hc5 => absurd hc5 (fun h => h rfl)) (fun hc5 => ?_)
    refine C.ic dX9_refuses_8 ?_
    refine C.goto (tgt := 13) dX9_refuses_9 (by decide) ?_
    refine C.ic dX9_refuses_13 ?_
    refine C.mcall hL (hT) cw_X9_throwsIf ml_X9_209 im_X9_throwsIf sl_X9_throwsIf dX9_refuses_14 rfl rfl (by omega) (Nat.le_refl _) (Nat.le_refl _) (Nat.le_of_ble_eq_true rfl) rfl (fun r14 sf14 sa14 hR14 => ?_)
    obtain ⟨rfl, hs, ha⟩ := hR14
    rw [hs, ha]
    clear hs ha
    refine C.if_neI (tgt := 33) dX9_refuses_17 (by decide) (by decide) (fun hc17 => ?_) (fun hc17 => absurd hc17 (by decide))
    refine C.ic dX9_refuses_33 ?_
    refine C.goto (tgt := 38) dX9_refuses_34 (by decide) ?_
    refine C.retI rfl (by first | rfl | (exact (iI_bool (by first | exact Or.inl rfl | exact Or.inr rfl | assumption)).1)) dX9_refuses_38 (Nat.le_refl _) (Nat.le_refl _) ⟨_, _, ?_, rfl, rfl⟩
    rw [hr]
    exact ⟨rfl, rfl, rfl⟩
  · have hT := m_throwsIf (d := d - 1) (sf := sf) (sa := sa) (b := 0) (z := 1) (Or.inl rfl)
    rw [if_pos rfl] at hT
    have hN := m_noSentence (d := d - 1) (by omega) (sf := sf) (sa := sa) hz h10 hn
    by_cases hq : 0 ≤ z ∧ z ≤ (n : Int) - 1
    · have hr : rfC (sf 13) n z = 0 := by unfold rfC; rw [if_neg (by rw [h13]; decide), if_pos hq]
      rw [if_pos hq] at hN
      have hU := m_throwsIf (d := d - 1) (sf := sf) (sa := sa) (b := 0) (z := 2) (Or.inl rfl)
      rw [if_pos rfl] at hU
      refine MM.of2 (by decide +kernel) rfl (Nat.le_of_ble_eq_true rfl) (fun L g hL X C => ?_)
      refine C.aload_n dX9_refuses_0 rfl ?_
      refine C.aload_n dX9_refuses_1 rfl ?_
      refine C.mget hL gf_X9_219 dX9_refuses_2 rfl ?_
      refine C.topI (b := 1) h13 ?_
      refine C.if_neI (tgt := 12) dX9_refuses_5 (by decide) (by omega) (fun hc5 => ?_) (fun hc5 => absurd hc5 (by decide))
      refine C.ic dX9_refuses_12 ?_
      refine C.ic dX9_refuses_13 ?_
      refine C.mcall hL (hT) cw_X9_throwsIf ml_X9_209 im_X9_throwsIf sl_X9_throwsIf dX9_refuses_14 rfl rfl (by omega) (Nat.le_refl _) (Nat.le_refl _) (Nat.le_of_ble_eq_true rfl) rfl (fun r14 sf14 sa14 hR14 => ?_)
      obtain ⟨rfl, hs, ha⟩ := hR14
      rw [hs, ha]
      clear hs ha
      refine C.if_neI (tgt := 33) dX9_refuses_17 (by decide) (by decide) (fun hc17 => absurd hc17 (by decide)) (fun hc17 => ?_)
      refine C.aload_n dX9_refuses_20 rfl ?_
      refine C.aload_n dX9_refuses_21 rfl ?_
      refine C.iload_n dX9_refuses_22 rfl ?_
      refine C.mcall hL (hN) cw_X9_noSentence ml_X9_298 im_X9_noSentence sl_X9_noSentence dX9_refuses_23 rfl rfl (by omega) (Nat.le_refl _) (Nat.le_refl _) (Nat.le_of_ble_eq_true rfl) rfl (fun r23 sf23 sa23 hR23 => ?_)
      obtain ⟨rfl, hs, ha⟩ := hR23
      rw [hs, ha]
      clear hs ha
      refine C.ic dX9_refuses_26 ?_
      refine C.mcall hL (hU) cw_X9_throwsIf ml_X9_209 im_X9_throwsIf sl_X9_throwsIf dX9_refuses_27 rfl rfl (by omega) (Nat.le_refl _) (Nat.le_refl _) (Nat.le_of_ble_eq_true rfl) rfl (fun r27 sf27 sa27 hR27 => ?_)
      obtain ⟨rfl, hs, ha⟩ := hR27
      rw [hs, ha]
      clear hs ha
      refine C.if_eqI (tgt := 37) dX9_refuses_30 (by decide) (by decide) (fun hc30 => ?_) (fun hc30 => absurd hc30 (by decide))
      refine C.ic dX9_refuses_37 ?_
      refine C.retI rfl (by first | rfl | (exact (iI_bool (by first | exact Or.inl rfl | exact Or.inr rfl | assumption)).1)) dX9_refuses_38 (Nat.le_refl _) (Nat.le_refl _) ⟨_, _, ?_, rfl, rfl⟩
      rw [hr]
      exact ⟨rfl, rfl, rfl⟩
    · have hr : rfC (sf 13) n z = 2 := by unfold rfC; rw [if_neg (by rw [h13]; decide), if_neg hq]
      rw [if_neg hq] at hN
      have hU := m_throwsIf (d := d - 1) (sf := sf) (sa := sa) (b := 1) (z := 2) (Or.inr rfl)
      rw [if_neg (by decide)] at hU
      refine MM.of2 (by decide +kernel) rfl (Nat.le_of_ble_eq_true rfl) (fun L g hL X C => ?_)
      refine C.aload_n dX9_refuses_0 rfl ?_
      refine C.aload_n dX9_refuses_1 rfl ?_
      refine C.mget hL gf_X9_219 dX9_refuses_2 rfl ?_
      refine C.topI (b := 1) h13 ?_
      refine C.if_neI (tgt := 12) dX9_refuses_5 (by decide) (by omega) (fun hc5 => ?_) (fun hc5 => absurd hc5 (by decide))
      refine C.ic dX9_refuses_12 ?_
      refine C.ic dX9_refuses_13 ?_
      refine C.mcall hL (hT) cw_X9_throwsIf ml_X9_209 im_X9_throwsIf sl_X9_throwsIf dX9_refuses_14 rfl rfl (by omega) (Nat.le_refl _) (Nat.le_refl _) (Nat.le_of_ble_eq_true rfl) rfl (fun r14 sf14 sa14 hR14 => ?_)
      obtain ⟨rfl, hs, ha⟩ := hR14
      rw [hs, ha]
      clear hs ha
      refine C.if_neI (tgt := 33) dX9_refuses_17 (by decide) (by decide) (fun hc17 => absurd hc17 (by decide)) (fun hc17 => ?_)
      refine C.aload_n dX9_refuses_20 rfl ?_
      refine C.aload_n dX9_refuses_21 rfl ?_
      refine C.iload_n dX9_refuses_22 rfl ?_
      refine C.mcall hL (hN) cw_X9_noSentence ml_X9_298 im_X9_noSentence sl_X9_noSentence dX9_refuses_23 rfl rfl (by omega) (Nat.le_refl _) (Nat.le_refl _) (Nat.le_of_ble_eq_true rfl) rfl (fun r23 sf23 sa23 hR23 => ?_)
      obtain ⟨rfl, hs, ha⟩ := hR23
      rw [hs, ha]
      clear hs ha
      refine C.ic dX9_refuses_26 ?_
      refine C.mcall hL (hU) cw_X9_throwsIf ml_X9_209 im_X9_throwsIf sl_X9_throwsIf dX9_refuses_27 rfl rfl (by omega) (Nat.le_refl _) (Nat.le_refl _) (Nat.le_of_ble_eq_true rfl) rfl (fun r27 sf27 sa27 hR27 => ?_)
      obtain ⟨rfl, hs, ha⟩ := hR27
      rw [hs, ha]
      clear hs ha
      refine C.if_eqI (tgt := 37) dX9_refuses_30 (by decide) (by decide) (fun hc30 => absurd hc30 (by decide)) (fun hc30 => ?_)
      refine C.ic dX9_refuses_33 ?_
      refine C.goto (tgt := 38) dX9_refuses_34 (by decide) ?_
      refine C.retI rfl (by first | rfl | (exact (iI_bool (by first | exact Or.inl rfl | exact Or.inr rfl | assumption)).1)) dX9_refuses_38 (Nat.le_refl _) (Nat.le_refl _) ⟨_, _, ?_, rfl, rfl⟩
      rw [hr]
      exact ⟨rfl, rfl, rfl⟩
theorem up00 {sf : SF} {v w : Int} {k : Nat} : va_up (va_up sf k v) k w = va_up sf k w := by
  funext j
  unfold va_up
  split <;> rfl
/-- with thrown at 0: refused -/
theorem m_refY {d : Nat} (hd : 2 ≤ d) {sf : SF} {sa : SA} {z : Int} {n : Nat} (hz : i3 z) (h13 : sf 13 = 0 ∨ sf 13 = 1) (h10 : sf 10 = n) (hn : n ≤ 24) (hc : rfC (sf 13) n z ≠ 0) : MM yX9_refuses cX9_refuses 2 (some .boolean) d [.int (iI z)] (va_up sf 0 0) sa (fun r sf' sa' => r = some (.int (iI 1)) ∧ sf' = va_up sf 0 (rfC (sf 13) n z) ∧ sa' = sa) :=
  (m_refuses hd hz (sf := va_up sf 0 0) h13 h10 hn).imp (fun r sf' sa' hr => by
    obtain ⟨h1, h2, h3⟩ := hr
    rw [show (va_up sf 0 0 13 : Int) = sf 13 from rfl] at h1 h2
    rw [if_neg hc] at h1 h2
    rw [up00] at h2
    exact ⟨h1, h2, h3⟩)
/-- .. or not -/
theorem m_refN {d : Nat} (hd : 2 ≤ d) {sf : SF} {sa : SA} {z : Int} {n : Nat} (hz : i3 z) (h13 : sf 13 = 0 ∨ sf 13 = 1) (h10 : sf 10 = n) (hn : n ≤ 24) (hc : rfC (sf 13) n z = 0) : MM yX9_refuses cX9_refuses 2 (some .boolean) d [.int (iI z)] (va_up sf 0 0) sa (fun r sf' sa' => r = some (.int (iI 0)) ∧ sf' = va_up sf 0 0 ∧ sa' = sa) :=
  (m_refuses hd hz (sf := va_up sf 0 0) h13 h10 hn).imp (fun r sf' sa' hr => by
    obtain ⟨h1, h2, h3⟩ := hr
    rw [show (va_up sf 0 0 13 : Int) = sf 13 from rfl] at h1 h2
    rw [if_pos hc] at h1 h2
    exact ⟨h1, h2, h3⟩)
theorem rfC_in {l n z : Int} (h : rfC l n z = 0) : 0 ≤ z ∧ z ≤ n - 1 := by
  unfold rfC at h
  split at h
  · cases h
  · split at h
    · assumption
    · cases h
def canT (x : Sen) : Bool := !decide (x.1.2.2.2 = 0) && !decide (x.1.2.1 = 3)
def trn (x : Sen) : Sen := ((x.1.1, x.1.2.1, x.1.2.2.1, 0), x.2)
theorem SenAt.b26 {sa : SA} {s : Nat} {x : Sen} {v : Int} (h : SenAt sa s x) : SenAt (va_up sa 26 (va_up (sa 26) s v)) s ((x.1.1, x.1.2.1, x.1.2.2.1, v), x.2) := by
  obtain ⟨⟨b1, b2, b3, b4, b5⟩, q1, q2, q3⟩ := h
  have e : ∀ a, a ≠ 26 → va_up sa 26 (va_up (sa 26) s v) a = sa a := fun a ha => va_up_ne _ _ ha
  refine ⟨⟨by rw [e 21 (by decide)]; exact b1, fun k hk => by rw [e 22 (by decide)]; exact b2 k hk, by rw [e 23 (by decide)]; exact b3, by rw [e 24 (by decide)]; exact b4, by rw [va_up_self, va_up_self]⟩, by rw [e 25 (by decide)]; exact q1, q2.keep (by rw [e 27 (by decide)]) (fun j _ => by rw [e 28 (by decide)]), q3.keep (by rw [e 27 (by decide)]) (fun j _ => by rw [e 28 (by decide)])⟩
theorem m_turnsRound {d s : Nat} {x : Sen} {sf : SF} {sa : SA} (hs : s < 100) (hx : SenAt sa s x) (hok : SOk x) : MM yX9_turnsRound cX9_turnsRound 2 (some .boolean) d [.int (iI s)] sf sa (fun r sf' sa' => r = some (.int (iI (b2i (canT x)))) ∧ sf' = sf ∧ SenAt sa' s (if canT x then trn x else x) ∧ GbS sa sa' s) := by
  have e26 : sa 26 s = x.1.2.2.2 := hx.1.2.2.2.2
  have e23 : sa 23 s = x.1.2.1 := hx.1.2.2.1
  have k5 := hok.1.2.1
  have k8 := hok.1.2.2.2.1
  refine MM.of2 (by decide +kernel) rfl (Nat.le_of_ble_eq_true rfl) (fun L g hL X C => ?_)
  by_cases h0 : x.1.2.2.2 = 0
  · have hc : canT x = false := by unfold canT; rw [decide_eq_true h0]; rfl
    refine C.aload_n dX9_turnsRound_0 rfl ?_
    refine C.mget hL gf_X9_25 dX9_turnsRound_1 rfl ?_
    refine C.iload_n dX9_turnsRound_4 rfl ?_
    refine C.maldzk hL dX9_turnsRound_5 (by decide) rfl (by decide) rfl (by omega) ?_
    refine C.topI (b := 0) (e26.trans h0) ?_
    refine C.if_eqI (tgt := 19) dX9_turnsRound_6 (by decide) (by decide) (fun hc6 => ?_) (fun hc6 => absurd hc6 (fun h => h rfl))
    refine C.ic dX9_turnsRound_19 ?_
    refine C.retI rfl (by first | rfl | (exact (iI_bool (by first | exact Or.inl rfl | exact Or.inr rfl | assumption)).1)) dX9_turnsRound_20 (Nat.le_refl _) (Nat.le_refl _) ⟨_, _, ?_, rfl, rfl⟩
    rw [hc]
    exact ⟨rfl, rfl, hx, GbS.rf⟩
  by_cases h3 : x.1.2.1 = 3
  · have hc : canT x = false := by unfold canT; rw [decide_eq_true h3, Bool.and_comm]; rfl
    refine C.aload_n dX9_turnsRound_0 rfl ?_
    refine C.mget hL gf_X9_25 dX9_turnsRound_1 rfl ?_
    refine C.iload_n dX9_turnsRound_4 rfl ?_
    refine C.maldzk hL dX9_turnsRound_5 (by decide) rfl (by decide) rfl (by omega) ?_
    refine C.topI (b := x.1.2.2.2) e26 ?_
    refine C.if_eqI (tgt := 19) dX9_turnsRound_6 (by decide) (by omega) (fun hc6 => absurd hc6 h0) (fun hc6 => ?_)
    refine C.aload_n dX9_turnsRound_9 rfl ?_
    refine C.mget hL gf_X9_16 dX9_turnsRound_10 rfl ?_
    refine C.iload_n dX9_turnsRound_13 rfl ?_
    refine C.maldk hL dX9_turnsRound_14 (by decide) rfl (by decide) rfl (by omega) ?_
    refine C.topI (b := x.1.2.1) e23 ?_
    refine C.ic dX9_turnsRound_15 ?_
    refine C.icmp_neI (tgt := 21) dX9_turnsRound_16 (by decide) (by omega) (by omega) (fun hc16 => absurd hc16 (fun h => h h3)) (fun hc16 => ?_)
    refine C.ic dX9_turnsRound_19 ?_
    refine C.retI rfl (by first | rfl | (exact (iI_bool (by first | exact Or.inl rfl | exact Or.inr rfl | assumption)).1)) dX9_turnsRound_20 (Nat.le_refl _) (Nat.le_refl _) ⟨_, _, ?_, rfl, rfl⟩
    rw [hc]
    exact ⟨rfl, rfl, hx, GbS.rf⟩
  · have hc : canT x = true := by unfold canT; rw [decide_eq_false h3, decide_eq_false h0]; rfl
    refine C.aload_n dX9_turnsRound_0 rfl ?_
    refine C.mget hL gf_X9_25 dX9_turnsRound_1 rfl ?_
    refine C.iload_n dX9_turnsRound_4 rfl ?_
    refine C.maldzk hL dX9_turnsRound_5 (by decide) rfl (by decide) rfl (by omega) ?_
    refine C.topI (b := x.1.2.2.2) e26 ?_
    refine C.if_eqI (tgt := 19) dX9_turnsRound_6 (by decide) (by omega) (fun hc6 => absurd hc6 h0) (fun hc6 => ?_)
    refine C.aload_n dX9_turnsRound_9 rfl ?_
    refine C.mget hL gf_X9_16 dX9_turnsRound_10 rfl ?_
    refine C.iload_n dX9_turnsRound_13 rfl ?_
    refine C.maldk hL dX9_turnsRound_14 (by decide) rfl (by decide) rfl (by omega) ?_
    refine C.topI (b := x.1.2.1) e23 ?_
    refine C.ic dX9_turnsRound_15 ?_
    refine C.icmp_neI (tgt := 21) dX9_turnsRound_16 (by decide) (by omega) (by omega) (fun hc16 => ?_) (fun hc16 => absurd hc16 h3)
    refine C.aload_n dX9_turnsRound_21 rfl ?_
    refine C.mget hL gf_X9_25 dX9_turnsRound_22 rfl ?_
    refine C.iload_n dX9_turnsRound_25 rfl ?_
    refine C.ic dX9_turnsRound_26 ?_
    refine C.mastzk hL (ovs_26 _ _ _) dX9_turnsRound_27 (by decide) rfl (by decide) rfl (by omega) (Or.inl rfl) ?_
    refine C.ic dX9_turnsRound_28 ?_
    refine C.retI rfl (by first | rfl | (exact (iI_bool (by first | exact Or.inl rfl | exact Or.inr rfl | assumption)).1)) dX9_turnsRound_29 (Nat.le_refl _) (Nat.le_refl _) ⟨_, _, ?_, rfl, rfl⟩
    rw [hc]
    exact ⟨rfl, rfl, hx.b26, GbS.rf.up (by omega)⟩
theorem SensAt.set {sa sa' : SA} {b k : Nat} {xs : List Sen} {x : Sen} (h : SensAt sa b xs) (hok : ∀ x ∈ xs, SOk x) (hg : GbS sa sa' (b + k)) (hx : SenAt sa' (b + k) x) : SensAt sa' b (xs.set k x) := fun i y hi => by
  by_cases hik : k = i
  · subst hik
    rw [List.getElem?_set] at hi
    simp only [if_true] at hi
    split at hi
    · cases hi; exact hx
    · cases hi
  · rw [List.getElem?_set_ne hik] at hi
    exact (h i y hi).S (hok y (List.mem_of_getElem? hi)).1.1.1 hg (by omega)
theorem m_turn {d : Nat} {ys : List Sen} {z : Int} {sf : SF} {sa : SA} (hd : 3 ≤ d) (hz : i3 z) (h13 : sf 13 = 0 ∨ sf 13 = 1) (h10 : sf 10 = ys.length) (hy : SensAt sa 24 ys) (ly : ys.length ≤ 24) (oky : ∀ x ∈ ys, SOk x) : MM yX9_turn cX9_turn 2 (some .boolean) d [.int (iI z)] sf sa (fun r sf' sa' => (rfC (sf 13) ys.length z ≠ 0 → r = some (.int (iI 0)) ∧ sf' = va_up sf 0 (rfC (sf 13) ys.length z) ∧ sa' = sa) ∧ (rfC (sf 13) ys.length z = 0 → ∀ x, ys[z.toNat]? = some x → r = some (.int (iI (b2i (canT x)))) ∧ sf' = (if canT x then va_up (va_up sf 0 0) 12 (sf 12 + 1) else va_up sf 0 0) ∧ SensAt sa' 24 (if canT x then ys.set z.toNat (trn x) else ys) ∧ GbR 24 48 sa sa')) := by
  by_cases hc : rfC (sf 13) ys.length z = 0
  · have hR := m_refN (d := d - 1) (sa := sa) (by omega) hz h13 h10 ly hc
    obtain ⟨z0, z1⟩ := rfC_in hc
    have hil : z.toNat < ys.length := by omega
    have hxi : ys[z.toNat]? = some ys[z.toNat] := List.getElem?_eq_getElem hil
    generalize ys[z.toNat] = x at hxi
    have hokx := oky x (List.mem_of_getElem? hxi)
    have hM := m_turnsRound (d := d - 1) (s := 24 + z.toNat) (sf := va_up sf 0 0) (by omega) (hy _ x hxi) hokx
    refine MM.of2 (by decide +kernel) rfl (Nat.le_of_ble_eq_true rfl) (fun L g hL X C => ?_)
    cases hcan : canT x with
    | false =>
      rw [hcan] at hM
      refine C.aload_n dX9_turn_0 rfl ?_
      refine C.ic dX9_turn_1 ?_
      refine C.mput hL pf_X9_59 dX9_turn_2 (by decide) rfl ?_
      refine C.aload_n dX9_turn_5 rfl ?_
      refine C.iload_n dX9_turn_6 rfl ?_
      refine C.mcall hL (hR) cw_X9_refuses ml_X9_301 im_X9_refuses sl_X9_refuses dX9_turn_7 rfl rfl (by omega) (Nat.le_refl _) (Nat.le_refl _) (Nat.le_of_ble_eq_true rfl) rfl (fun r7 sf7 sa7 hR7 => ?_)
      obtain ⟨rfl, hs, ha⟩ := hR7
      rw [hs, ha]
      clear hs ha
      refine C.if_neI (tgt := 24) dX9_turn_10 (by decide) (by decide) (fun hc10 => absurd hc10 (by decide)) (fun hc10 => ?_)
      refine C.aload_n dX9_turn_13 rfl ?_
      refine C.bi dX9_turn_14 (by decide) ?_
      refine C.iload_n dX9_turn_16 rfl ?_
      refine C.iaddI dX9_turn_17 ?_
      refine C.topI (b := ((24 + z.toNat : Nat) : Int)) (by omega) ?_
      refine C.mcall hL (hM) cw_X9_turnsRound ml_X9_307 im_X9_turnsRound sl_X9_turnsRound dX9_turn_18 rfl rfl (by omega) (Nat.le_refl _) (Nat.le_refl _) (Nat.le_of_ble_eq_true rfl) rfl (fun r18 sf18 sa18 hR18 => ?_)
      obtain ⟨rfl, hs2, n1, n2⟩ := hR18
      rw [hs2]
      clear hs2
      refine C.if_neI (tgt := 26) dX9_turn_21 (by decide) (by decide) (fun hc21 => absurd hc21 (by decide)) (fun hc21 => ?_)
      refine C.ic dX9_turn_24 ?_
      refine C.retI rfl (by first | rfl | (exact (iI_bool (by first | exact Or.inl rfl | exact Or.inr rfl | assumption)).1)) dX9_turn_25 (Nat.le_refl _) (Nat.le_refl _) ⟨_, _, ?_, rfl, rfl⟩
      refine ⟨fun h => absurd hc h, fun _ y hy2 => ?_⟩
      obtain rfl : x = y := Option.some.inj (hxi.symm.trans hy2)
      rw [hcan]
      refine ⟨rfl, rfl, fun i w hi => ?_, n2.R (by omega) (by omega)⟩
      by_cases hik : i = z.toNat
      · subst hik
        obtain rfl : x = w := Option.some.inj (hxi.symm.trans hi)
        exact n1
      · exact (hy i w hi).S (oky w (List.mem_of_getElem? hi)).1.1.1 n2 (by omega)
    | true =>
      rw [hcan] at hM
      refine C.aload_n dX9_turn_0 rfl ?_
      refine C.ic dX9_turn_1 ?_
      refine C.mput hL pf_X9_59 dX9_turn_2 (by decide) rfl ?_
      refine C.aload_n dX9_turn_5 rfl ?_
      refine C.iload_n dX9_turn_6 rfl ?_
      refine C.mcall hL (hR) cw_X9_refuses ml_X9_301 im_X9_refuses sl_X9_refuses dX9_turn_7 rfl rfl (by omega) (Nat.le_refl _) (Nat.le_refl _) (Nat.le_of_ble_eq_true rfl) rfl (fun r7 sf7 sa7 hR7 => ?_)
      obtain ⟨rfl, hs, ha⟩ := hR7
      rw [hs, ha]
      clear hs ha
      refine C.if_neI (tgt := 24) dX9_turn_10 (by decide) (by decide) (fun hc10 => absurd hc10 (by decide)) (fun hc10 => ?_)
      refine C.aload_n dX9_turn_13 rfl ?_
      refine C.bi dX9_turn_14 (by decide) ?_
      refine C.iload_n dX9_turn_16 rfl ?_
      refine C.iaddI dX9_turn_17 ?_
      refine C.topI (b := ((24 + z.toNat : Nat) : Int)) (by omega) ?_
      refine C.mcall hL (hM) cw_X9_turnsRound ml_X9_307 im_X9_turnsRound sl_X9_turnsRound dX9_turn_18 rfl rfl (by omega) (Nat.le_refl _) (Nat.le_refl _) (Nat.le_of_ble_eq_true rfl) rfl (fun r18 sf18 sa18 hR18 => ?_)
      obtain ⟨rfl, hs2, n1, n2⟩ := hR18
      rw [hs2]
      clear hs2
      refine C.if_neI (tgt := 26) dX9_turn_21 (by decide) (by decide) (fun hc21 => ?_) (fun hc21 => absurd hc21 (by decide))
      refine C.aload_n dX9_turn_26 rfl ?_
      refine C.dup dX9_turn_27 rfl ?_
      refine C.mget hL gf_X9_226 dX9_turn_28 rfl ?_
      refine C.ic dX9_turn_31 ?_
      refine C.iaddI dX9_turn_32 ?_
      refine C.mput hL pf_X9_226 dX9_turn_33 (by decide) rfl ?_
      refine C.ic dX9_turn_36 ?_
      refine C.retI rfl (by first | rfl | (exact (iI_bool (by first | exact Or.inl rfl | exact Or.inr rfl | assumption)).1)) dX9_turn_37 (Nat.le_refl _) (Nat.le_refl _) ⟨_, _, ?_, rfl, rfl⟩
      refine ⟨fun h => absurd hc h, fun _ y hy2 => ?_⟩
      obtain rfl : x = y := Option.some.inj (hxi.symm.trans hy2)
      rw [hcan]
      exact ⟨rfl, rfl, hy.set oky n2 n1, n2.R (by omega) (by omega)⟩
  · have hR := m_refY (d := d - 1) (sa := sa) (by omega) hz h13 h10 ly hc
    refine MM.of2 (by decide +kernel) rfl (Nat.le_of_ble_eq_true rfl) (fun L g hL X C => ?_)
    refine C.aload_n dX9_turn_0 rfl ?_
    refine C.ic dX9_turn_1 ?_
    refine C.mput hL pf_X9_59 dX9_turn_2 (by decide) rfl ?_
    refine C.aload_n dX9_turn_5 rfl ?_
    refine C.iload_n dX9_turn_6 rfl ?_
    refine C.mcall hL (hR) cw_X9_refuses ml_X9_301 im_X9_refuses sl_X9_refuses dX9_turn_7 rfl rfl (by omega) (Nat.le_refl _) (Nat.le_refl _) (Nat.le_of_ble_eq_true rfl) rfl (fun r7 sf7 sa7 hR7 => ?_)
    obtain ⟨rfl, hs, ha⟩ := hR7
    rw [hs, ha]
    clear hs ha
    refine C.if_neI (tgt := 24) dX9_turn_10 (by decide) (by decide) (fun hc10 => ?_) (fun hc10 => absurd hc10 (by decide))
    refine C.ic dX9_turn_24 ?_
    refine C.retI rfl (by first | rfl | (exact (iI_bool (by first | exact Or.inl rfl | exact Or.inr rfl | assumption)).1)) dX9_turn_25 (Nat.le_refl _) (Nat.le_refl _) ⟨_, _, ?_, rfl, rfl⟩
    exact ⟨fun _ => ⟨rfl, rfl, rfl⟩, fun h => absurd h hc⟩
