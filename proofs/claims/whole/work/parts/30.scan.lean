/-! the reference's scanning of its tape -/
def inR (tb : Nat → Int) (e : Nat) (lo hi : Int) (p : Nat) : Bool := decide (p < e) && (decide (lo ≤ tb p) && decide (tb p ≤ hi))
def skF (tb : Nat → Int) (e : Nat) (lo hi : Int) : Nat → Nat → Nat
  | 0, p => p
  | n + 1, p => if inR tb e lo hi p then skF tb e lo hi n (p + 1) else p
/-- the first place from p on that is not of the range -/
def sk (tb : Nat → Int) (e : Nat) (lo hi : Int) (p : Nat) : Nat := skF tb e lo hi (e - p) p
theorem inR_lt {tb : Nat → Int} {e p : Nat} {lo hi : Int} (h : inR tb e lo hi p = true) : p < e ∧ lo ≤ tb p ∧ tb p ≤ hi := by
  unfold inR at h
  simpa using h
theorem sk_go {tb : Nat → Int} {e p : Nat} {lo hi : Int} (h : inR tb e lo hi p = true) : sk tb e lo hi p = sk tb e lo hi (p + 1) := by
  have := (inR_lt h).1
  unfold sk
  rw [show e - p = (e - (p + 1)) + 1 by omega]
  simp [skF, h]
theorem sk_stop {tb : Nat → Int} {e p : Nat} {lo hi : Int} (h : inR tb e lo hi p = false) : sk tb e lo hi p = p := by
  unfold sk
  cases e - p with
  | zero => rfl
  | succ n => simp [skF, h]
theorem skF_ge {tb : Nat → Int} {e : Nat} {lo hi : Int} : ∀ (n p : Nat), p ≤ skF tb e lo hi n p ∧ skF tb e lo hi n p ≤ p + n
  | 0, p => ⟨Nat.le_refl _, Nat.le_refl _⟩
  | n + 1, p => by
    unfold skF
    split
    · have := skF_ge (tb := tb) (e := e) (lo := lo) (hi := hi) n (p + 1); omega
    · omega
theorem sk_ge (tb : Nat → Int) (e : Nat) (lo hi : Int) (p : Nat) : p ≤ sk tb e lo hi p ∧ sk tb e lo hi p ≤ max p e := by
  have := skF_ge (tb := tb) (e := e) (lo := lo) (hi := hi) (e - p) p
  unfold sk
  omega
theorem sk_le {tb : Nat → Int} {e p : Nat} {lo hi : Int} (h : p ≤ e) : sk tb e lo hi p ≤ e := by
  have := sk_ge tb e lo hi p
  omega
def b2i (b : Bool) : Int := if b then 1 else 0
theorem b2i_01 (b : Bool) : b2i b = 0 ∨ b2i b = 1 := by cases b <;> simp [b2i]
theorem up_id {α : Type} (f : Nat → α) (k : Nat) (v : α) (h : f k = v) : va_up f k v = f := by
  funext j
  by_cases hj : j = k
  · subst hj; rw [va_up_self, h]
  · exact va_up_ne _ _ hj
/-- bytes are bytes -/
def TB (sa : SA) : Prop := ∀ j, -128 ≤ sa 32 j ∧ sa 32 j < 128
set_option maxRecDepth 20000 in
theorem m_isAt {d p e : Nat} {sf : SF} {sa : SA} {lo hi : Int} (h22 : sf 22 = p) (h23 : sf 23 = e) (he : e ≤ 400) (hp : p ≤ e) (htb : TB sa) (hlo : 0 ≤ lo ∧ lo < 128) (hhi : 0 ≤ hi ∧ hi < 128) : MM yX9_isAt cX9_isAt 3 (some .boolean) d [.int (iI lo), .int (iI hi)] sf sa (fun r sf' sa' => r = some (.int (iI (b2i (inR (sa 32) e lo hi p)))) ∧ sf' = sf ∧ sa' = sa) := by
  have hb := htb p
  refine MM.of2 (by decide +kernel) rfl (Nat.le_of_ble_eq_true rfl) (fun L g hL X C => ?_)
  refine C.aload_n dX9_isAt_0 rfl ?_
  refine C.mget hL gf_X9_99 dX9_isAt_1 rfl ?_
  refine C.aload_n dX9_isAt_4 rfl ?_
  refine C.mget hL gf_X9_102 dX9_isAt_5 rfl ?_
  refine C.icmp_geI (tgt := 41) dX9_isAt_8 (by decide) (by omega) (by omega) (fun hc8 => ?_) (fun hc8 => ?_)
  · refine C.ic dX9_isAt_41 ?_
    refine C.retI rfl (by first | rfl | (exact (iI_bool (by first | exact Or.inl rfl | exact Or.inr rfl | assumption)).1)) dX9_isAt_42 (Nat.le_refl _) (Nat.le_refl _) ⟨_, _, ?_, rfl, rfl⟩
    refine ⟨?_, rfl, rfl⟩
    congr 3
    unfold inR b2i
    rw [h22, h23] at *
    simp
    omega
  · refine C.aload_n dX9_isAt_11 rfl ?_
    refine C.mget hL gf_X9_45 dX9_isAt_12 rfl ?_
    refine C.aload_n dX9_isAt_15 rfl ?_
    refine C.mget hL gf_X9_99 dX9_isAt_16 rfl ?_
    refine C.maldbk hL (k := p) dX9_isAt_19 (by decide) rfl (by decide) (by omega) (by omega) ?_
    refine C.iload_n dX9_isAt_20 rfl ?_
    refine C.icmp_ltI (tgt := 41) dX9_isAt_21 (by decide) (by omega) (by omega) (fun hc21 => ?_) (fun hc21 => ?_)
    · refine C.ic dX9_isAt_41 ?_
      refine C.retI rfl (by first | rfl | (exact (iI_bool (by first | exact Or.inl rfl | exact Or.inr rfl | assumption)).1)) dX9_isAt_42 (Nat.le_refl _) (Nat.le_refl _) ⟨_, _, ?_, rfl, rfl⟩
      refine ⟨?_, rfl, rfl⟩
      congr 3
      unfold inR b2i
      rw [h22, h23] at *
      simp
      omega
    · refine C.aload_n dX9_isAt_24 rfl ?_
      refine C.mget hL gf_X9_45 dX9_isAt_25 rfl ?_
      refine C.aload_n dX9_isAt_28 rfl ?_
      refine C.mget hL gf_X9_99 dX9_isAt_29 rfl ?_
      refine C.maldbk hL (k := p) dX9_isAt_32 (by decide) rfl (by decide) (by omega) (by omega) ?_
      refine C.iload_n dX9_isAt_33 rfl ?_
      refine C.icmp_gtI (tgt := 41) dX9_isAt_34 (by decide) (by omega) (by omega) (fun hc34 => ?_) (fun hc34 => ?_)
      · refine C.ic dX9_isAt_41 ?_
        refine C.retI rfl (by first | rfl | (exact (iI_bool (by first | exact Or.inl rfl | exact Or.inr rfl | assumption)).1)) dX9_isAt_42 (Nat.le_refl _) (Nat.le_refl _) ⟨_, _, ?_, rfl, rfl⟩
        refine ⟨?_, rfl, rfl⟩
        congr 3
        unfold inR b2i
        rw [h22, h23] at *
        simp
        omega
      · refine C.ic dX9_isAt_37 ?_
        refine C.goto (tgt := 42) dX9_isAt_38 (by decide) ?_
        refine C.retI rfl (by first | rfl | (exact (iI_bool (by first | exact Or.inl rfl | exact Or.inr rfl | assumption)).1)) dX9_isAt_42 (Nat.le_refl _) (Nat.le_refl _) ⟨_, _, ?_, rfl, rfl⟩
        refine ⟨?_, rfl, rfl⟩
        congr 3
        unfold inR b2i
        rw [h22, h23] at *
        simp
        omega
/-- point and begin -/
def sfP (sf : SF) (p b : Int) : SF := va_up (va_up sf 22 p) 24 b
theorem sfP_P (sf : SF) (p b p2 b2 : Int) : sfP (sfP sf p b) p2 b2 = sfP sf p2 b2 := by
  funext j
  unfold sfP va_up
  by_cases h1 : j = 24
  · simp [h1]
  · by_cases h2 : j = 22 <;> simp [h1, h2]
theorem sfP_22 (sf : SF) (p b p2 : Int) : va_up (sfP sf p b) 22 p2 = sfP sf p2 b := by
  funext j
  unfold sfP va_up
  by_cases h1 : j = 24
  · simp [h1]
  · by_cases h2 : j = 22 <;> simp [h1, h2]
set_option maxRecDepth 20000 in
theorem m_blanks {d p e : Nat} (hd : 1 ≤ d) {sf : SF} {sa : SA} (h22 : sf 22 = p) (h23 : sf 23 = e) (he : e ≤ 400) (hp : p ≤ e) (htb : TB sa) : MM yX9_blanks cX9_blanks 1 none d [] sf sa (fun r sf' sa' => r = none ∧ sf' = sfP sf (sk (sa 32) e 32 32 p) (sk (sa 32) e 32 32 p) ∧ sa' = sa) := by
  refine MM.of2 (by decide +kernel) rfl (Nat.le_of_ble_eq_true rfl) (fun L g hL X C => ?_)
  have loop : ∀ (n q : Nat), e - q = n → q ≤ e → sk (sa 32) e 32 32 q = sk (sa 32) e 32 32 p → X 0 0 L (ov (va_up sf 22 q) sa g) 0 [some (.ref 20)] [] := by
    intro n
    induction n with
    | zero =>
      intro q hq hqe hs
      have hin : inR (sa 32) e 32 32 q = false := by
        cases h : inR (sa 32) e 32 32 q with
        | false => rfl
        | true => have := inR_lt h; omega
      have hM := m_isAt (d := d - 1) (sf := va_up sf 22 q) (sa := sa) (p := q) (lo := 32) (hi := 32) (va_up_self _ _ _) h23 he hqe htb (by omega) (by omega)
      rw [hin] at hM
      rw [sk_stop hin] at hs
      refine C.aload_n dX9_blanks_0 rfl ?_
      refine C.bi dX9_blanks_1 (by decide) ?_
      refine C.bi dX9_blanks_3 (by decide) ?_
      refine C.mcall hL (hM) cw_X9_isAt ml_X9_105 im_X9_isAt sl_X9_isAt dX9_blanks_5 rfl rfl (by omega) (Nat.le_refl _) (Nat.le_refl _) (Nat.le_of_ble_eq_true rfl) rfl (fun r5 sf5 sa5 hR5 => ?_)
      obtain ⟨rfl, hs, ha⟩ := hR5
      rw [hs, ha]
      clear hs ha
      refine C.if_eqI (tgt := 24) dX9_blanks_8 (by decide) (by decide) (fun hc8 => ?_) (fun hc8 => absurd hc8 (fun h => h rfl))
      refine C.aload_n dX9_blanks_24 rfl ?_
      refine C.aload_n dX9_blanks_25 rfl ?_
      refine C.mget hL gf_X9_99 dX9_blanks_26 rfl ?_
      refine C.mput hL pf_X9_109 dX9_blanks_29 (by decide) rfl ?_
      refine C.vret rfl dX9_blanks_32 (Nat.le_refl _) (Nat.le_refl _) ⟨_, _, ?_, rfl, rfl⟩
      rw [← hs]
      exact ⟨rfl, rfl, rfl⟩
    | succ n ih =>
      intro q hq hqe hs
      have hM := m_isAt (d := d - 1) (sf := va_up sf 22 q) (sa := sa) (p := q) (lo := 32) (hi := 32) (va_up_self _ _ _) h23 he hqe htb (by omega) (by omega)
      cases hin : inR (sa 32) e 32 32 q with
      | false =>
        rw [hin] at hM
        rw [sk_stop hin] at hs
        refine C.aload_n dX9_blanks_0 rfl ?_
        refine C.bi dX9_blanks_1 (by decide) ?_
        refine C.bi dX9_blanks_3 (by decide) ?_
        refine C.mcall hL (hM) cw_X9_isAt ml_X9_105 im_X9_isAt sl_X9_isAt dX9_blanks_5 rfl rfl (by omega) (Nat.le_refl _) (Nat.le_refl _) (Nat.le_of_ble_eq_true rfl) rfl (fun r5 sf5 sa5 hR5 => ?_)
        obtain ⟨rfl, hs, ha⟩ := hR5
        rw [hs, ha]
        clear hs ha
        refine C.if_eqI (tgt := 24) dX9_blanks_8 (by decide) (by decide) (fun hc8 => ?_) (fun hc8 => absurd hc8 (fun h => h rfl))
        refine C.aload_n dX9_blanks_24 rfl ?_
        refine C.aload_n dX9_blanks_25 rfl ?_
        refine C.mget hL gf_X9_99 dX9_blanks_26 rfl ?_
        refine C.mput hL pf_X9_109 dX9_blanks_29 (by decide) rfl ?_
        refine C.vret rfl dX9_blanks_32 (Nat.le_refl _) (Nat.le_refl _) ⟨_, _, ?_, rfl, rfl⟩
        rw [← hs]
        exact ⟨rfl, rfl, rfl⟩
      | true =>
        rw [hin] at hM
        rw [sk_go hin] at hs
        have hlt := (inR_lt hin).1
        refine C.aload_n dX9_blanks_0 rfl ?_
        refine C.bi dX9_blanks_1 (by decide) ?_
        refine C.bi dX9_blanks_3 (by decide) ?_
        refine C.mcall hL (hM) cw_X9_isAt ml_X9_105 im_X9_isAt sl_X9_isAt dX9_blanks_5 rfl rfl (by omega) (Nat.le_refl _) (Nat.le_refl _) (Nat.le_of_ble_eq_true rfl) rfl (fun r5 sf5 sa5 hR5 => ?_)
        obtain ⟨rfl, hs, ha⟩ := hR5
        rw [hs, ha]
        clear hs ha
        refine C.if_eqI (tgt := 24) dX9_blanks_8 (by decide) (by decide) (fun hc8 => absurd hc8 (by decide)) (fun hc8 => ?_)
        refine C.aload_n dX9_blanks_11 rfl ?_
        refine C.dup dX9_blanks_12 rfl ?_
        refine C.mget hL gf_X9_99 dX9_blanks_13 rfl ?_
        refine C.ic dX9_blanks_16 ?_
        refine C.iaddI dX9_blanks_17 ?_
        refine C.mput hL pf_X9_99 dX9_blanks_18 (by decide) rfl ?_
        refine C.goto (tgt := 0) dX9_blanks_21 (by decide) ?_
        have h0 := ih (q + 1) (by omega) (by omega) hs
        have e1 : va_up (va_up sf 22 q) 22 (va_up sf 22 (q : Int) 22 + 1) = va_up sf 22 ((q + 1 : Nat) : Int) := by
          rw [bx_uu, va_up_self]; rfl
        rw [e1]
        exact h0
  have h0 := loop (e - p) p rfl hp rfl
  rw [up_id sf 22 p h22] at h0
  exact h0
/-- a word's end -/
def wend (tb : Nat → Int) (e p : Nat) : Nat := sk tb e 97 122 p
def bl (tb : Nat → Int) (e p : Nat) : Nat := sk tb e 32 32 p
set_option maxRecDepth 20000 in
theorem m_word {d p e : Nat} (hd : 2 ≤ d) {sf : SF} {sa : SA} (h22 : sf 22 = p) (h23 : sf 23 = e) (he : e ≤ 400) (hp : p ≤ e) (htb : TB sa) : MM yX9_word cX9_word 1 none d [] sf sa (fun r sf' sa' => r = none ∧ sf' = sfP sf (wend (sa 32) e (bl (sa 32) e p)) (bl (sa 32) e p) ∧ sa' = sa) := by
  refine MM.of2 (by decide +kernel) rfl (Nat.le_of_ble_eq_true rfl) (fun L g hL X C => ?_)
  have hb : bl (sa 32) e p ≤ e := sk_le hp
  have loop : ∀ (n q : Nat), e - q = n → q ≤ e → wend (sa 32) e q = wend (sa 32) e (bl (sa 32) e p) → X 0 0 L (ov (sfP sf q (bl (sa 32) e p)) sa g) 4 [some (.ref 20)] [] := by
    intro n
    induction n with
    | zero =>
      intro q hq hqe hs
      have hin : inR (sa 32) e 97 122 q = false := by
        cases h : inR (sa 32) e 97 122 q with
        | false => rfl
        | true => have := inR_lt h; omega
      have hM := m_isAt (d := d - 1) (sf := sfP sf q (bl (sa 32) e p)) (sa := sa) (p := q) (lo := 97) (hi := 122) rfl h23 he hqe htb (by omega) (by omega)
      rw [hin] at hM
      unfold wend at hs
      rw [sk_stop hin] at hs
      refine C.aload_n dX9_word_4 rfl ?_
      refine C.bi dX9_word_5 (by decide) ?_
      refine C.bi dX9_word_7 (by decide) ?_
      refine C.mcall hL (hM) cw_X9_isAt ml_X9_105 im_X9_isAt sl_X9_isAt dX9_word_9 rfl rfl (by omega) (Nat.le_refl _) (Nat.le_refl _) (Nat.le_of_ble_eq_true rfl) rfl (fun r9 sf9 sa9 hR9 => ?_)
      obtain ⟨rfl, hs, ha⟩ := hR9
      rw [hs, ha]
      clear hs ha
      refine C.if_eqI (tgt := 28) dX9_word_12 (by decide) (by decide) (fun hc12 => ?_) (fun hc12 => absurd hc12 (fun h => h rfl))
      refine C.vret rfl dX9_word_28 (Nat.le_refl _) (Nat.le_refl _) ⟨_, _, ?_, rfl, rfl⟩
      unfold wend
      rw [← hs]
      exact ⟨rfl, rfl, rfl⟩
    | succ n ih =>
      intro q hq hqe hs
      have hM := m_isAt (d := d - 1) (sf := sfP sf q (bl (sa 32) e p)) (sa := sa) (p := q) (lo := 97) (hi := 122) rfl h23 he hqe htb (by omega) (by omega)
      cases hin : inR (sa 32) e 97 122 q with
      | false =>
        rw [hin] at hM
        unfold wend at hs
        rw [sk_stop hin] at hs
        refine C.aload_n dX9_word_4 rfl ?_
        refine C.bi dX9_word_5 (by decide) ?_
        refine C.bi dX9_word_7 (by decide) ?_
        refine C.mcall hL (hM) cw_X9_isAt ml_X9_105 im_X9_isAt sl_X9_isAt dX9_word_9 rfl rfl (by omega) (Nat.le_refl _) (Nat.le_refl _) (Nat.le_of_ble_eq_true rfl) rfl (fun r9 sf9 sa9 hR9 => ?_)
        obtain ⟨rfl, hs, ha⟩ := hR9
        rw [hs, ha]
        clear hs ha
        refine C.if_eqI (tgt := 28) dX9_word_12 (by decide) (by decide) (fun hc12 => ?_) (fun hc12 => absurd hc12 (fun h => h rfl))
        refine C.vret rfl dX9_word_28 (Nat.le_refl _) (Nat.le_refl _) ⟨_, _, ?_, rfl, rfl⟩
        unfold wend
        rw [← hs]
        exact ⟨rfl, rfl, rfl⟩
      | true =>
        rw [hin] at hM
        unfold wend at hs
        rw [sk_go hin] at hs
        have hlt := (inR_lt hin).1
        refine C.aload_n dX9_word_4 rfl ?_
        refine C.bi dX9_word_5 (by decide) ?_
        refine C.bi dX9_word_7 (by decide) ?_
        refine C.mcall hL (hM) cw_X9_isAt ml_X9_105 im_X9_isAt sl_X9_isAt dX9_word_9 rfl rfl (by omega) (Nat.le_refl _) (Nat.le_refl _) (Nat.le_of_ble_eq_true rfl) rfl (fun r9 sf9 sa9 hR9 => ?_)
        obtain ⟨rfl, hs, ha⟩ := hR9
        rw [hs, ha]
        clear hs ha
        refine C.if_eqI (tgt := 28) dX9_word_12 (by decide) (by decide) (fun hc12 => absurd hc12 (by decide)) (fun hc12 => ?_)
        refine C.aload_n dX9_word_15 rfl ?_
        refine C.dup dX9_word_16 rfl ?_
        refine C.mget hL gf_X9_99 dX9_word_17 rfl ?_
        refine C.ic dX9_word_20 ?_
        refine C.iaddI dX9_word_21 ?_
        refine C.mput hL pf_X9_99 dX9_word_22 (by decide) rfl ?_
        refine C.goto (tgt := 4) dX9_word_25 (by decide) ?_
        have h0 := ih (q + 1) (by omega) (by omega) hs
        rw [sfP_22]
        exact h0
  refine C.aload_n dX9_word_0 rfl ?_
  refine C.mcall hL (m_blanks (d := d - 1) (by omega) h22 h23 he hp htb) cw_X9_blanks ml_X9_112 im_X9_blanks sl_X9_blanks dX9_word_1 rfl rfl (by omega) (Nat.le_refl _) (Nat.le_refl _) (Nat.le_of_ble_eq_true rfl) rfl (fun r1 sf1 sa1 hR1 => ?_)
  obtain ⟨rfl, hs, ha⟩ := hR1
  rw [hs, ha]
  clear hs ha
  exact loop _ _ rfl hb rfl
