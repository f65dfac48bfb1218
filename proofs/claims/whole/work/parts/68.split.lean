theorem i_and255 (x : Int32) : x &&& iI 255 = iI (x.toInt % 256) := by
  apply Int32.toBitVec_inj.1
  show x.toBitVec &&& 255#32 = BitVec.ofInt 32 (x.toBitVec.toInt % 256)
  apply BitVec.eq_of_toNat_eq
  rw [BitVec.toNat_and, BitVec.toNat_ofInt, BitVec.toInt_eq_toNat_cond]
  have h := x.toBitVec.isLt
  generalize x.toBitVec.toNat = n at *
  rw [show (255#32).toNat = 2 ^ 8 - 1 from rfl, Nat.and_two_pow_sub_one_eq_mod]
  split <;> omega
theorem tpV_mod {tb : Nat → Int} {n i : Nat} (hi : i < n) (hb : -128 ≤ tb i ∧ tb i < 128) : tpV tb n i = tb i % 256 := by
  unfold tpV
  rw [if_pos (by omega), Int.toNat_natCast, i_and255, iI_toInt (by omega), iI_toInt (by omega)]
/-- the bytes on the class's tape -/
def TK (a : SA) : Prop := ∀ j, -128 ≤ a 2 j ∧ a 2 j < 128
section SPLIT
variable {d e : Nat} {L : List Nat} {g : Nat → AC} {c : SF} {a : SA}
set_option maxRecDepth 20000 in
theorem k_wordEnd {p : Nat} (hd : 1 ≤ d) (hL : ∀ k, k < 36 → k ∈ L) (he : c 11 = e) (h4 : e ≤ 400) (hb : TK a) (hp : p < e) : KA yX6_wordEnd cX6_wordEnd 3 (some .int) d [.ref 1, .int (iI p)] L g c a (fun r c' a' => r = some (.int (iI (sk (a 2) e 97 122 (p + 1) : Nat))) ∧ c' = c ∧ a' = a) := by
  refine KA.of (by decide +kernel) rfl (Nat.le_of_ble_eq_true rfl) (fun X C => ?_)
  have loop : ∀ (m q : Nat), q + m = e → p < q → sk (a 2) e 97 122 q = sk (a 2) e 97 122 (p + 1) → X 0 0 L (kv c a g) 4 [some (.ref 1), some (.int (iI p)), some (.int (iI q))] [] := by
    intro m
    induction m with
    | zero =>
      intro q hq hpq hs
      have hst : sk (a 2) e 97 122 q = q := sk_stop (by unfold inR; rw [decide_eq_false (by omega)]; rfl)
      refine C.iload_n dX6_wordEnd_4 rfl ?_
      refine C.aload_n dX6_wordEnd_5 rfl ?_
      refine C.getf gf_X6_39 dX6_wordEnd_6 (hL _ (by decide)) rfl rfl ?_
      refine C.topI (b := (e : Int)) he ?_
      refine C.icmp_geI (tgt := 29) dX6_wordEnd_9 (by decide) (by omega) (by omega) (fun hc9 => ?_) (fun hc9 => absurd hc9 (by omega))
      refine C.iload_n dX6_wordEnd_29 rfl ?_
      refine C.retI rfl (by first | rfl | (exact (iI_bool (by first | exact Or.inl rfl | exact Or.inr rfl | assumption)).1)) dX6_wordEnd_30 (Nat.le_refl _) (Nat.le_refl _) ⟨_, _, ?_, rfl, rfl⟩
      rw [← hs, hst]
      exact ⟨rfl, rfl, rfl⟩
    | succ m ih =>
      intro q hq hpq hs
      have hbq := hb q
      have hA := k_at (d := d - 1) (g := g) (c := c) (a := a) (z := q) hL ⟨by omega, by omega⟩ he h4
      rw [tpV_mod (by omega) hbq] at hA
      by_cases hin : inR (a 2) e 97 122 q = true
      · have hin2 := inR_lt hin
        have nx := ih (q + 1) (by omega) (by omega) (by rw [← hs, sk_go hin])
        refine C.iload_n dX6_wordEnd_4 rfl ?_
        refine C.aload_n dX6_wordEnd_5 rfl ?_
        refine C.getf gf_X6_39 dX6_wordEnd_6 (hL _ (by decide)) rfl rfl ?_
        refine C.topI (b := (e : Int)) he ?_
        refine C.icmp_geI (tgt := 29) dX6_wordEnd_9 (by decide) (by omega) (by omega) (fun hc9 => absurd hc9 (by omega)) (fun hc9 => ?_)
        refine C.aload_n dX6_wordEnd_12 rfl ?_
        refine C.iload_n dX6_wordEnd_13 rfl ?_
        refine C.kcall (hA) cw_X4_at ml_X6_40 im_X4_at sl_X4_at dX6_wordEnd_14 (hL _ (by decide)) rfl rfl rfl (by omega) (Nat.le_refl _) (Nat.le_refl _) (Nat.le_of_ble_eq_true rfl) rfl (fun r14 c14 a14 hR14 => ?_)
        obtain ⟨rfl, hs, ha⟩ := hR14
        rw [hs, ha]
        clear hs ha
        refine C.callS (s_isLetter (d := d - 1) (z := a 2 q % 256) ⟨by omega, by omega⟩) cw_X6_isLetter ml_X6_43 sm_X6_isLetter dX6_wordEnd_17 rfl (by omega) (Nat.le_refl _) (Nat.le_refl _) (Nat.le_of_ble_eq_true rfl) rfl (fun r L9 f9 h9 => ?_)
        obtain ⟨rfl, hL9, hf9⟩ := h9
        rw [hL9, hf9]
        clear hL9 hf9
        rw [decide_eq_true (by omega : (97 : Int) ≤ a 2 q % 256), decide_eq_true (by omega : a 2 q % 256 ≤ 122)]
        refine C.if_eqI (tgt := 29) dX6_wordEnd_20 (by decide) (by decide) (fun hc20 => absurd hc20 (by decide)) (fun hc20 => ?_)
        refine C.iincI dX6_wordEnd_23 rfl (by decide) rfl ?_
        refine C.goto (tgt := 4) dX6_wordEnd_26 (by decide) ?_
        exact nx
      · have hst : sk (a 2) e 97 122 q = q := sk_stop (by simpa using hin)
        have hno : ¬ (97 ≤ a 2 q % 256 ∧ a 2 q % 256 ≤ 122) := fun h => hin (by unfold inR; rw [decide_eq_true (by omega), decide_eq_true (by omega), decide_eq_true (by omega)]; rfl)
        refine C.iload_n dX6_wordEnd_4 rfl ?_
        refine C.aload_n dX6_wordEnd_5 rfl ?_
        refine C.getf gf_X6_39 dX6_wordEnd_6 (hL _ (by decide)) rfl rfl ?_
        refine C.topI (b := (e : Int)) he ?_
        refine C.icmp_geI (tgt := 29) dX6_wordEnd_9 (by decide) (by omega) (by omega) (fun hc9 => absurd hc9 (by omega)) (fun hc9 => ?_)
        refine C.aload_n dX6_wordEnd_12 rfl ?_
        refine C.iload_n dX6_wordEnd_13 rfl ?_
        refine C.kcall (hA) cw_X4_at ml_X6_40 im_X4_at sl_X4_at dX6_wordEnd_14 (hL _ (by decide)) rfl rfl rfl (by omega) (Nat.le_refl _) (Nat.le_refl _) (Nat.le_of_ble_eq_true rfl) rfl (fun r14 c14 a14 hR14 => ?_)
        obtain ⟨rfl, hs, ha⟩ := hR14
        rw [hs, ha]
        clear hs ha
        refine C.callS (s_isLetter (d := d - 1) (z := a 2 q % 256) ⟨by omega, by omega⟩) cw_X6_isLetter ml_X6_43 sm_X6_isLetter dX6_wordEnd_17 rfl (by omega) (Nat.le_refl _) (Nat.le_refl _) (Nat.le_of_ble_eq_true rfl) rfl (fun r L9 f9 h9 => ?_)
        obtain ⟨rfl, hL9, hf9⟩ := h9
        rw [hL9, hf9]
        clear hL9 hf9
        rw [show (decide ((97 : Int) ≤ a 2 q % 256) && decide (a 2 q % 256 ≤ 122)) = false by simp only [Bool.and_eq_false_imp, decide_eq_true_eq, decide_eq_false_iff_not]; omega]
        refine C.if_eqI (tgt := 29) dX6_wordEnd_20 (by decide) (by decide) (fun hc20 => ?_) (fun hc20 => absurd hc20 (by decide))
        refine C.iload_n dX6_wordEnd_29 rfl ?_
        refine C.retI rfl (by first | rfl | (exact (iI_bool (by first | exact Or.inl rfl | exact Or.inr rfl | assumption)).1)) dX6_wordEnd_30 (Nat.le_refl _) (Nat.le_refl _) ⟨_, _, ?_, rfl, rfl⟩
        rw [← hs, hst]
        exact ⟨rfl, rfl, rfl⟩
  have := loop (e - (p + 1)) (p + 1) (by omega) (by omega) rfl
  refine C.iload_n dX6_wordEnd_0 rfl ?_
  refine C.ic dX6_wordEnd_1 ?_
  refine C.iaddI dX6_wordEnd_2 ?_
  refine C.istore_n dX6_wordEnd_3 (by decide) rfl ?_
  exact this
set_option maxRecDepth 20000 in
theorem k_numberEnd {p : Nat} (hd : 1 ≤ d) (hL : ∀ k, k < 36 → k ∈ L) (he : c 11 = e) (h4 : e ≤ 400) (hb : TK a) (hp : p < e) : KA yX6_numberEnd cX6_numberEnd 3 (some .int) d [.ref 1, .int (iI p)] L g c a (fun r c' a' => r = some (.int (iI (sk (a 2) e 48 57 (p + 1) : Nat))) ∧ c' = c ∧ a' = a) := by
  refine KA.of (by decide +kernel) rfl (Nat.le_of_ble_eq_true rfl) (fun X C => ?_)
  have loop : ∀ (m q : Nat), q + m = e → p < q → sk (a 2) e 48 57 q = sk (a 2) e 48 57 (p + 1) → X 0 0 L (kv c a g) 4 [some (.ref 1), some (.int (iI p)), some (.int (iI q))] [] := by
    intro m
    induction m with
    | zero =>
      intro q hq hpq hs
      have hst : sk (a 2) e 48 57 q = q := sk_stop (by unfold inR; rw [decide_eq_false (by omega)]; rfl)
      refine C.iload_n dX6_numberEnd_4 rfl ?_
      refine C.aload_n dX6_numberEnd_5 rfl ?_
      refine C.getf gf_X6_39 dX6_numberEnd_6 (hL _ (by decide)) rfl rfl ?_
      refine C.topI (b := (e : Int)) he ?_
      refine C.icmp_geI (tgt := 29) dX6_numberEnd_9 (by decide) (by omega) (by omega) (fun hc9 => ?_) (fun hc9 => absurd hc9 (by omega))
      refine C.iload_n dX6_numberEnd_29 rfl ?_
      refine C.retI rfl (by first | rfl | (exact (iI_bool (by first | exact Or.inl rfl | exact Or.inr rfl | assumption)).1)) dX6_numberEnd_30 (Nat.le_refl _) (Nat.le_refl _) ⟨_, _, ?_, rfl, rfl⟩
      rw [← hs, hst]
      exact ⟨rfl, rfl, rfl⟩
    | succ m ih =>
      intro q hq hpq hs
      have hbq := hb q
      have hA := k_at (d := d - 1) (g := g) (c := c) (a := a) (z := q) hL ⟨by omega, by omega⟩ he h4
      rw [tpV_mod (by omega) hbq] at hA
      by_cases hin : inR (a 2) e 48 57 q = true
      · have hin2 := inR_lt hin
        have nx := ih (q + 1) (by omega) (by omega) (by rw [← hs, sk_go hin])
        refine C.iload_n dX6_numberEnd_4 rfl ?_
        refine C.aload_n dX6_numberEnd_5 rfl ?_
        refine C.getf gf_X6_39 dX6_numberEnd_6 (hL _ (by decide)) rfl rfl ?_
        refine C.topI (b := (e : Int)) he ?_
        refine C.icmp_geI (tgt := 29) dX6_numberEnd_9 (by decide) (by omega) (by omega) (fun hc9 => absurd hc9 (by omega)) (fun hc9 => ?_)
        refine C.aload_n dX6_numberEnd_12 rfl ?_
        refine C.iload_n dX6_numberEnd_13 rfl ?_
        refine C.kcall (hA) cw_X4_at ml_X6_40 im_X4_at sl_X4_at dX6_numberEnd_14 (hL _ (by decide)) rfl rfl rfl (by omega) (Nat.le_refl _) (Nat.le_refl _) (Nat.le_of_ble_eq_true rfl) rfl (fun r14 c14 a14 hR14 => ?_)
        obtain ⟨rfl, hs, ha⟩ := hR14
        rw [hs, ha]
        clear hs ha
        refine C.callS (s_isDigit (d := d - 1) (z := a 2 q % 256) ⟨by omega, by omega⟩) cw_X6_isDigit ml_X6_59 sm_X6_isDigit dX6_numberEnd_17 rfl (by omega) (Nat.le_refl _) (Nat.le_refl _) (Nat.le_of_ble_eq_true rfl) rfl (fun r L9 f9 h9 => ?_)
        obtain ⟨rfl, hL9, hf9⟩ := h9
        rw [hL9, hf9]
        clear hL9 hf9
        rw [decide_eq_true (by omega : (48 : Int) ≤ a 2 q % 256), decide_eq_true (by omega : a 2 q % 256 ≤ 57)]
        refine C.if_eqI (tgt := 29) dX6_numberEnd_20 (by decide) (by decide) (fun hc20 => absurd hc20 (by decide)) (fun hc20 => ?_)
        refine C.iincI dX6_numberEnd_23 rfl (by decide) rfl ?_
        refine C.goto (tgt := 4) dX6_numberEnd_26 (by decide) ?_
        exact nx
      · have hst : sk (a 2) e 48 57 q = q := sk_stop (by simpa using hin)
        have hno : ¬ (48 ≤ a 2 q % 256 ∧ a 2 q % 256 ≤ 57) := fun h => hin (by unfold inR; rw [decide_eq_true (by omega), decide_eq_true (by omega), decide_eq_true (by omega)]; rfl)
        refine C.iload_n dX6_numberEnd_4 rfl ?_
        refine C.aload_n dX6_numberEnd_5 rfl ?_
        refine C.getf gf_X6_39 dX6_numberEnd_6 (hL _ (by decide)) rfl rfl ?_
        refine C.topI (b := (e : Int)) he ?_
        refine C.icmp_geI (tgt := 29) dX6_numberEnd_9 (by decide) (by omega) (by omega) (fun hc9 => absurd hc9 (by omega)) (fun hc9 => ?_)
        refine C.aload_n dX6_numberEnd_12 rfl ?_
        refine C.iload_n dX6_numberEnd_13 rfl ?_
        refine C.kcall (hA) cw_X4_at ml_X6_40 im_X4_at sl_X4_at dX6_numberEnd_14 (hL _ (by decide)) rfl rfl rfl (by omega) (Nat.le_refl _) (Nat.le_refl _) (Nat.le_of_ble_eq_true rfl) rfl (fun r14 c14 a14 hR14 => ?_)
        obtain ⟨rfl, hs, ha⟩ := hR14
        rw [hs, ha]
        clear hs ha
        refine C.callS (s_isDigit (d := d - 1) (z := a 2 q % 256) ⟨by omega, by omega⟩) cw_X6_isDigit ml_X6_59 sm_X6_isDigit dX6_numberEnd_17 rfl (by omega) (Nat.le_refl _) (Nat.le_refl _) (Nat.le_of_ble_eq_true rfl) rfl (fun r L9 f9 h9 => ?_)
        obtain ⟨rfl, hL9, hf9⟩ := h9
        rw [hL9, hf9]
        clear hL9 hf9
        rw [show (decide ((48 : Int) ≤ a 2 q % 256) && decide (a 2 q % 256 ≤ 57)) = false by simp only [Bool.and_eq_false_imp, decide_eq_true_eq, decide_eq_false_iff_not]; omega]
        refine C.if_eqI (tgt := 29) dX6_numberEnd_20 (by decide) (by decide) (fun hc20 => ?_) (fun hc20 => absurd hc20 (by decide))
        refine C.iload_n dX6_numberEnd_29 rfl ?_
        refine C.retI rfl (by first | rfl | (exact (iI_bool (by first | exact Or.inl rfl | exact Or.inr rfl | assumption)).1)) dX6_numberEnd_30 (Nat.le_refl _) (Nat.le_refl _) ⟨_, _, ?_, rfl, rfl⟩
        rw [← hs, hst]
        exact ⟨rfl, rfl, rfl⟩
  have := loop (e - (p + 1)) (p + 1) (by omega) (by omega) rfl
  refine C.iload_n dX6_numberEnd_0 rfl ?_
  refine C.ic dX6_numberEnd_1 ?_
  refine C.iaddI dX6_numberEnd_2 ?_
  refine C.istore_n dX6_numberEnd_3 (by decide) rfl ?_
  exact this
/-- what a number says: none for one of more than three digits -/
def vlK (tb : Nat → Int) (b w : Nat) : Int := if b + 3 < w then -1 else nvF tb b (w - b)
set_option maxRecDepth 20000 in
theorem k_numberIn {p w : Nat} (hd : 1 ≤ d) (hL : ∀ k, k < 36 → k ∈ L) (he : c 11 = e) (h4 : e ≤ 400) (hb : TK a) (hp : p < w) (hw : w ≤ e) (hdg : ∀ i, i < w - p → 48 ≤ a 2 (p + i) ∧ a 2 (p + i) ≤ 57) : KA yX6_numberIn cX6_numberIn 5 (some .int) d [.ref 1, .int (iI p), .int (iI w)] L g c a (fun r c' a' => r = some (.int (iI (vlK (a 2) p w))) ∧ c' = c ∧ a' = a) := by
  refine KA.of (by decide +kernel) rfl (Nat.le_of_ble_eq_true rfl) (fun X C => ?_)
  by_cases h3 : p + 3 < w
  · have hv : vlK (a 2) p w = -1 := by unfold vlK; rw [if_pos h3]
    refine C.iload_n dX6_numberIn_0 rfl ?_
    refine C.iload_n dX6_numberIn_1 rfl ?_
    refine C.isubI dX6_numberIn_2 ?_
    refine C.ic dX6_numberIn_3 ?_
    refine C.icmp_leI (tgt := 9) dX6_numberIn_4 (by decide) (by omega) (by omega) (fun hc4 => absurd hc4 (by omega)) (fun hc4 => ?_)
    refine C.ic dX6_numberIn_7 ?_
    refine C.retI rfl (by first | rfl | (exact (iI_bool (by first | exact Or.inl rfl | exact Or.inr rfl | assumption)).1)) dX6_numberIn_8 (Nat.le_refl _) (Nat.le_refl _) ⟨_, _, ?_, rfl, rfl⟩
    rw [hv]
    exact ⟨rfl, rfl, rfl⟩
  · have hv : vlK (a 2) p w = nvF (a 2) p (w - p) := by unfold vlK; rw [if_neg h3]
    have loop : ∀ (m k : Nat), k + m = w - p → X 0 0 L (kv c a g) 14 [some (.ref 1), some (.int (iI p)), some (.int (iI w)), some (.int (iI (nvF (a 2) p k))), some (.int (iI ((p + k : Nat) : Int)))] [] := by
      intro m
      induction m with
      | zero =>
        intro k hk
        refine C.iload dX6_numberIn_14 rfl ?_
        refine C.iload_n dX6_numberIn_16 rfl ?_
        refine C.icmp_geI (tgt := 41) dX6_numberIn_17 (by decide) (by omega) (by omega) (fun hc17 => ?_) (fun hc17 => absurd hc17 (by omega))
        refine C.iload_n dX6_numberIn_41 rfl ?_
        refine C.retI rfl (by first | rfl | (exact (iI_bool (by first | exact Or.inl rfl | exact Or.inr rfl | assumption)).1)) dX6_numberIn_42 (Nat.le_refl _) (Nat.le_refl _) ⟨_, _, ?_, rfl, rfl⟩
        rw [hv, ← show k = w - p by omega]
        exact ⟨rfl, rfl, rfl⟩
      | succ m ih =>
        intro k hk
        have hdk := hdg k (by omega)
        have hA := k_at (d := d - 1) (g := g) (c := c) (a := a) (z := ((p + k : Nat) : Int)) hL ⟨by omega, by omega⟩ he h4
        rw [tpV_mod (by omega) (hb (p + k)), show a 2 (p + k) % 256 = a 2 (p + k) by omega] at hA
        have nx := ih (k + 1) (by omega)
        refine C.iload dX6_numberIn_14 rfl ?_
        refine C.iload_n dX6_numberIn_16 rfl ?_
        refine C.icmp_geI (tgt := 41) dX6_numberIn_17 (by decide) (by omega) (by omega) (fun hc17 => absurd hc17 (by omega)) (fun hc17 => ?_)
        refine C.bi dX6_numberIn_20 (by decide) ?_
        refine C.iload_n dX6_numberIn_22 rfl ?_
        refine C.imulI dX6_numberIn_23 ?_
        refine C.aload_n dX6_numberIn_24 rfl ?_
        refine C.iload dX6_numberIn_25 rfl ?_
        refine C.kcall (hA) cw_X4_at ml_X6_40 im_X4_at sl_X4_at dX6_numberIn_27 (hL _ (by decide)) rfl rfl rfl (by omega) (Nat.le_refl _) (Nat.le_refl _) (Nat.le_of_ble_eq_true rfl) rfl (fun r27 c27 a27 hR27 => ?_)
        obtain ⟨rfl, hs, ha⟩ := hR27
        rw [hs, ha]
        clear hs ha
        refine C.iaddI dX6_numberIn_30 ?_
        refine C.bi dX6_numberIn_31 (by decide) ?_
        refine C.isubI dX6_numberIn_33 ?_
        refine C.topI (b := nvF (a 2) p (k + 1)) (by simp only [nvF]; rw [if_pos (by omega)]) ?_
        refine C.istore_n dX6_numberIn_34 (by decide) rfl ?_
        refine C.iincI dX6_numberIn_35 rfl (by decide) rfl ?_
        refine C.goto (tgt := 14) dX6_numberIn_38 (by decide) ?_
        exact nx
    have := loop (w - p) 0 (by omega)
    refine C.iload_n dX6_numberIn_0 rfl ?_
    refine C.iload_n dX6_numberIn_1 rfl ?_
    refine C.isubI dX6_numberIn_2 ?_
    refine C.ic dX6_numberIn_3 ?_
    refine C.icmp_leI (tgt := 9) dX6_numberIn_4 (by decide) (by omega) (by omega) (fun hc4 => ?_) (fun hc4 => absurd hc4 (by omega))
    refine C.ic dX6_numberIn_9 ?_
    refine C.istore_n dX6_numberIn_10 (by decide) rfl ?_
    refine C.iload_n dX6_numberIn_11 rfl ?_
    refine C.istore dX6_numberIn_12 (by decide) rfl ?_
    exact this
end SPLIT
