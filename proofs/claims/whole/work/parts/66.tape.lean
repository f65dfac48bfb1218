section ALEN
variable {own : String} {cc : ByteArray} {nL : Nat} {rt : Option FieldType} {ini : Bool} {d mc ms : Nat} {Po : AT} {X : XT} {ce sl pc : Nat} {L : List Nat} {f : Nat → AC} {lv : List (Option Value)} {st : List Value}
theorem Cx.alenI (C : Cx own cc nL rt ini d mc ms Po X) {k t n : Nat} {g : (Nat → Int32) ⊕ (Nat → Int64) ⊕ (Nat → UInt32) ⊕ (Nat → UInt64) ⊕ (Nat → Option Nat)} (dg : decode cc pc = .ok (.arraylength, 1)) (hk : k ∈ L) (hf : f k = .inl (t, n, g)) (ht : t < 6)
    (kk : X ce sl L f (pc + 1) lv (.int (iI (n : Int)) :: st)) : X ce sl L f pc lv (.ref k :: st) := C.alen dg hk hf ht (by rw [iI_nI]; exact kk)
end ALEN
theorem k_at {d n : Nat} {L : List Nat} {g : Nat → AC} {c : SF} {a : SA} {z : Int} (hL : ∀ k, k < 36 → k ∈ L) (hz : i3 z) (hn : c 11 = n) (h4 : n ≤ 400) : KA yX4_at cX4_at 2 (some .int) d [.ref 1, .int (iI z)] L g c a (fun r c' a' => r = some (.int (iI (tpV (a 2) n z))) ∧ c' = c ∧ a' = a) := by
  unfold i3 at hz
  refine KA.of (by decide +kernel) rfl (Nat.le_of_ble_eq_true rfl) (fun X C => ?_)
  by_cases hq : 0 ≤ z ∧ z ≤ (n : Int) - 1
  · refine C.iload_n dX4_at_0 rfl ?_
    refine C.if_ltI (tgt := 34) dX4_at_1 (by decide) (by omega) (fun hc1 => absurd hc1 (by omega)) (fun hc1 => ?_)
    refine C.iload_n dX4_at_4 rfl ?_
    refine C.aload_n dX4_at_5 rfl ?_
    refine C.getf gf_X4_15 dX4_at_6 (hL _ (by decide)) rfl rfl ?_
    refine C.topI (b := (n : Int)) hn ?_
    refine C.icmp_geI (tgt := 34) dX4_at_9 (by decide) (by omega) (by omega) (fun hc9 => absurd hc9 (by omega)) (fun hc9 => ?_)
    refine C.iload_n dX4_at_12 rfl ?_
    refine C.aload_n dX4_at_13 rfl ?_
    refine C.getf gf_X4_11 dX4_at_14 (hL _ (by decide)) rfl rfl ?_
    refine C.alenI dX4_at_17 (hL _ (by decide)) rfl (by decide) ?_
    refine C.icmp_geI (tgt := 34) dX4_at_18 (by decide) (by omega) (by omega) (fun hc18 => absurd hc18 (by omega)) (fun hc18 => ?_)
    refine C.aload_n dX4_at_21 rfl ?_
    refine C.getf gf_X4_11 dX4_at_22 (hL _ (by decide)) rfl rfl ?_
    refine C.iload_n dX4_at_25 rfl ?_
    refine C.kald_2 hL (k := z.toNat) dX4_at_26 (by omega) (by omega) ?_
    refine C.si dX4_at_27 (by decide) ?_
    refine C.iand dX4_at_30 ?_
    rw [show iI (a 2 z.toNat) &&& iI 255 = iI (tpV (a 2) n z) by unfold tpV; rw [if_pos hq]; exact (Int32.ofInt_toInt _).symm]
    refine C.goto (tgt := 35) dX4_at_31 (by decide) ?_
    refine C.retI rfl (by first | rfl | (exact (iI_bool (by first | exact Or.inl rfl | exact Or.inr rfl | assumption)).1)) dX4_at_35 (Nat.le_refl _) (Nat.le_refl _) ⟨_, _, ?_, rfl, rfl⟩
    exact ⟨rfl, rfl, rfl⟩
  · have hv : tpV (a 2) n z = -1 := by unfold tpV; rw [if_neg hq]
    refine C.iload_n dX4_at_0 rfl ?_
    refine C.if_ltI (tgt := 34) dX4_at_1 (by decide) (by omega) (fun hc1 => ?_) (fun hc1 => ?_)
    · refine C.ic dX4_at_34 ?_
      refine C.retI rfl (by first | rfl | (exact (iI_bool (by first | exact Or.inl rfl | exact Or.inr rfl | assumption)).1)) dX4_at_35 (Nat.le_refl _) (Nat.le_refl _) ⟨_, _, ?_, rfl, rfl⟩
      rw [hv]
      exact ⟨rfl, rfl, rfl⟩
    · refine C.iload_n dX4_at_4 rfl ?_
      refine C.aload_n dX4_at_5 rfl ?_
      refine C.getf gf_X4_15 dX4_at_6 (hL _ (by decide)) rfl rfl ?_
      refine C.topI (b := (n : Int)) hn ?_
      refine C.icmp_geI (tgt := 34) dX4_at_9 (by decide) (by omega) (by omega) (fun hc9 => ?_) (fun hc9 => absurd hc9 (by omega))
      refine C.ic dX4_at_34 ?_
      refine C.retI rfl (by first | rfl | (exact (iI_bool (by first | exact Or.inl rfl | exact Or.inr rfl | assumption)).1)) dX4_at_35 (Nat.le_refl _) (Nat.le_refl _) ⟨_, _, ?_, rfl, rfl⟩
      rw [hv]
      exact ⟨rfl, rfl, rfl⟩
theorem k_cut {d n : Nat} {L : List Nat} {g : Nat → AC} {c : SF} {a : SA} {z : Int} (hL : ∀ k, k < 36 → k ∈ L) (hz : i3 z) (hn : c 11 = n) (h4 : n ≤ 400) : KA yX4_cut cX4_cut 2 (some .boolean) d [.ref 1, .int (iI z)] L g c a (fun r c' a' => r = some (.int (iI (b2i (decide (0 ≤ z) && decide (z ≤ n))))) ∧ c' = (if 0 ≤ z ∧ z ≤ n then va_up c 11 z else c) ∧ a' = a) := by
  unfold i3 at hz
  refine KA.of (by decide +kernel) rfl (Nat.le_of_ble_eq_true rfl) (fun X C => ?_)
  refine C.iload_n dX4_cut_0 rfl ?_
  refine C.if_ltI (tgt := 12) dX4_cut_1 (by decide) (by omega) (fun hc1 => ?_) (fun hc1 => ?_)
  · refine C.ic dX4_cut_12 ?_
    refine C.retI rfl (by first | rfl | (exact (iI_bool (by first | exact Or.inl rfl | exact Or.inr rfl | assumption)).1)) dX4_cut_13 (Nat.le_refl _) (Nat.le_refl _) ⟨_, _, ?_, rfl, rfl⟩
    first | (rw [decide_eq_false (by omega : ¬ 0 ≤ z), if_neg (by omega)]; exact ⟨rfl, rfl, rfl⟩) | (rw [decide_eq_false (by omega : ¬ z ≤ n), if_neg (by omega), Bool.and_false]; exact ⟨rfl, rfl, rfl⟩)
  · refine C.iload_n dX4_cut_4 rfl ?_
    refine C.aload_n dX4_cut_5 rfl ?_
    refine C.getf gf_X4_15 dX4_cut_6 (hL _ (by decide)) rfl rfl ?_
    refine C.topI (b := (n : Int)) hn ?_
    refine C.icmp_leI (tgt := 14) dX4_cut_9 (by decide) (by omega) (by omega) (fun hc9 => ?_) (fun hc9 => ?_)
    · refine C.aload_n dX4_cut_14 rfl ?_
      refine C.iload_n dX4_cut_15 rfl ?_
      refine C.kput_11 hL pf_X4_15 dX4_cut_16 ?_
      refine C.ic dX4_cut_19 ?_
      refine C.retI rfl (by first | rfl | (exact (iI_bool (by first | exact Or.inl rfl | exact Or.inr rfl | assumption)).1)) dX4_cut_20 (Nat.le_refl _) (Nat.le_refl _) ⟨_, _, ?_, rfl, rfl⟩
      rw [decide_eq_true (by omega : 0 ≤ z), decide_eq_true (by omega : z ≤ n), if_pos (by omega)]
      exact ⟨rfl, rfl, rfl⟩
    · refine C.ic dX4_cut_12 ?_
      refine C.retI rfl (by first | rfl | (exact (iI_bool (by first | exact Or.inl rfl | exact Or.inr rfl | assumption)).1)) dX4_cut_13 (Nat.le_refl _) (Nat.le_refl _) ⟨_, _, ?_, rfl, rfl⟩
      first | (rw [decide_eq_false (by omega : ¬ 0 ≤ z), if_neg (by omega)]; exact ⟨rfl, rfl, rfl⟩) | (rw [decide_eq_false (by omega : ¬ z ≤ n), if_neg (by omega), Bool.and_false]; exact ⟨rfl, rfl, rfl⟩)
/-- the four bytes of a number -/
def f4 (z : Int) : List Int := (List.range 4).map (fun (k : Nat) => fb z (24 - 8 * (k : Int)))
set_option maxRecDepth 20000 in
theorem k_addNumber {d n : Nat} {L : List Nat} {g : Nat → AC} {c : SF} {a : SA} {z : Int} (hL : ∀ k, k < 36 → k ∈ L) (hn : c 11 = n) (h4 : n + 4 ≤ 400) : KA yX4_addNumber cX4_addNumber 3 none d [.ref 1, .int (iI z)] L g c a (fun r c' a' => r = none ∧ c' = va_up c 11 ((n : Int) + 4) ∧ a' = wrS a 2 n (f4 z)) := by
  refine KA.of (by decide +kernel) rfl (Nat.le_of_ble_eq_true rfl) (fun X C => ?_)
  have hl : (f4 z).length = 4 := rfl
  have loop : ∀ (m k : Nat) (cc : SF) (ac : SA), k + m = 4 → cc = va_up c 11 ((n + k : Nat) : Int) → ac = wrS a 2 n ((f4 z).take k) → X 0 0 L (kv cc ac g) 3 [some (.ref 1), some (.int (iI z)), some (.int (iI (24 - 8 * (k : Int))))] [] := by
    intro m
    induction m with
    | zero =>
      intro k cc ac hk hc ha
      obtain rfl : k = 4 := by omega
      subst hc ha
      refine C.iload_n dX4_addNumber_3 rfl ?_
      refine C.if_ltI (tgt := 48) dX4_addNumber_4 (by decide) (by omega) (fun hc4 => ?_) (fun hc4 => absurd hc4 (by omega))
      refine C.vret rfl dX4_addNumber_48 (Nat.le_refl _) (Nat.le_refl _) ⟨_, _, ?_, rfl, rfl⟩
      rw [List.take_of_length_le (Nat.le_of_ble_eq_true rfl)]
      exact ⟨rfl, rfl, rfl⟩
    | succ m ih =>
      intro k cc ac hk hc ha
      have h11 : cc 11 = ((n + k : Nat) : Int) := by rw [hc, va_up_self]
      have hr := fb_rng z (24 - 8 * (k : Int))
      refine C.iload_n dX4_addNumber_3 rfl ?_
      refine C.if_ltI (tgt := 48) dX4_addNumber_4 (by decide) (by omega) (fun hc4 => absurd hc4 (by omega)) (fun hc4 => ?_)
      refine C.aload_n dX4_addNumber_7 rfl ?_
      refine C.getf gf_X4_15 dX4_addNumber_8 (hL _ (by decide)) rfl rfl ?_
      refine C.topI (b := ((n + k : Nat) : Int)) h11 ?_
      refine C.aload_n dX4_addNumber_11 rfl ?_
      refine C.getf gf_X4_11 dX4_addNumber_12 (hL _ (by decide)) rfl rfl ?_
      refine C.alenI dX4_addNumber_15 (hL _ (by decide)) rfl (by decide) ?_
      refine C.icmp_geI (tgt := 42) dX4_addNumber_16 (by decide) (by omega) (by omega) (fun hc16 => absurd hc16 (by omega)) (fun hc16 => ?_)
      refine C.aload_n dX4_addNumber_19 rfl ?_
      refine C.getf gf_X4_11 dX4_addNumber_20 (hL _ (by decide)) rfl rfl ?_
      refine C.aload_n dX4_addNumber_23 rfl ?_
      refine C.getf gf_X4_15 dX4_addNumber_24 (hL _ (by decide)) rfl rfl ?_
      refine C.topI (b := ((n + k : Nat) : Int)) h11 ?_
      refine C.iload_n dX4_addNumber_27 rfl ?_
      refine C.iload_n dX4_addNumber_28 rfl ?_
      refine C.ishr dX4_addNumber_29 ?_
      refine C.i2b dX4_addNumber_30 ?_
      rw [fb_iI]
      refine C.kast_2 hL dX4_addNumber_31 rfl (by omega) hr ?_
      refine C.aload_n dX4_addNumber_32 rfl ?_
      refine C.dup dX4_addNumber_33 rfl ?_
      refine C.getf gf_X4_15 dX4_addNumber_34 (hL _ (by decide)) rfl rfl ?_
      refine C.topI (b := ((n + k : Nat) : Int)) h11 ?_
      refine C.ic dX4_addNumber_37 ?_
      refine C.iaddI dX4_addNumber_38 ?_
      refine C.kput_11 hL pf_X4_15 dX4_addNumber_39 ?_
      refine C.iincI dX4_addNumber_42 rfl (by decide) rfl ?_
      refine C.goto (tgt := 3) dX4_addNumber_45 (by decide) ?_
      refine cast ?_ (ih (k + 1) (va_up cc 11 ((n + k : Nat) + 1 : Int)) (va_up ac 2 (va_up (ac 2) (n + k) (fb z (24 - 8 * (k : Int))))) (by omega) (by rw [hc, up00]; congr 1) ?_)
      · rw [show (24 - 8 * ((k + 1 : Nat) : Int)) = 24 - 8 * (k : Int) + -8 by omega]
        rfl
      · have ht : (f4 z).take (k + 1) = (f4 z).take k ++ [fb z (24 - 8 * (k : Int))] := by
          rw [List.take_succ_eq_append_getElem (by rw [hl]; omega)]
          congr 2
          unfold f4
          rw [List.getElem_map, List.getElem_range]
        rw [ht, ← wrS_app, List.length_take, hl, Nat.min_eq_left (by omega), ← wrS_one, ha]
  have := loop 4 0 c a rfl (by rw [Nat.add_zero, ← hn]; exact (up_id c 11 _ rfl).symm) (by rw [List.take_zero, wrS_nil])
  refine C.bi dX4_addNumber_0 (by decide) ?_
  refine C.istore_n dX4_addNumber_2 (by decide) rfl ?_
  exact this
theorem fits_byte {x : Int} (h : -128 ≤ x ∧ x < 128) : fits .byte (.int (iI x)) = true := by
  have h1 : (-128 : Int32) ≤ iI x := by
    rw [Int32.le_iff_toInt_le, iI_toInt (by omega)]
    show (-128 : Int) ≤ x
    omega
  have h2 : iI x ≤ (127 : Int32) := by
    rw [Int32.le_iff_toInt_le, iI_toInt (by omega)]
    show x ≤ (127 : Int)
    omega
  simp only [fits, decide_eq_true h1, decide_eq_true h2, Bool.and_self]
theorem k_become {d n : Nat} {L : List Nat} {g : Nat → AC} {c : SF} {a : SA} (hd : 1 ≤ d) (hL : ∀ k, k < 36 → k ∈ L) (h4 : n ≤ 400) (hb : ∀ i, i < n → -128 ≤ a 12 i ∧ a 12 i < 128) : KA yX4_become cX4_become 3 none d [.ref 1, .ref 12, .int (iI n)] L g c a (fun r c' a' => r = none ∧ c' = va_up c 11 n ∧ a' = va_up a 2 (cpy (a 12) (a 2) 0 0 n)) := by
  refine KA.of (by decide +kernel) rfl (Nat.le_of_ble_eq_true rfl) (fun X C => ?_)
  refine C.iload_n dX4_become_0 rfl ?_
  refine C.if_ltI (tgt := 35) dX4_become_1 (by decide) (by omega) (fun hc1 => absurd hc1 (by omega)) (fun hc1 => ?_)
  refine C.iload_n dX4_become_4 rfl ?_
  refine C.aload_n dX4_become_5 rfl ?_
  refine C.alenI dX4_become_6 (hL _ (by decide)) rfl (by decide) ?_
  refine C.icmp_gtI (tgt := 35) dX4_become_7 (by decide) (by omega) (by omega) (fun hc7 => absurd hc7 (by omega)) (fun hc7 => ?_)
  refine C.iload_n dX4_become_10 rfl ?_
  refine C.aload_n dX4_become_11 rfl ?_
  refine C.getf gf_X4_11 dX4_become_12 (hL _ (by decide)) rfl rfl ?_
  refine C.alenI dX4_become_15 (hL _ (by decide)) rfl (by decide) ?_
  refine C.icmp_gtI (tgt := 35) dX4_become_16 (by decide) (by omega) (by omega) (fun hc16 => absurd hc16 (by omega)) (fun hc16 => ?_)
  refine C.aload_n dX4_become_19 rfl ?_
  refine C.ic dX4_become_20 ?_
  refine C.aload_n dX4_become_21 rfl ?_
  refine C.getf gf_X4_11 dX4_become_22 (hL _ (by decide)) rfl rfl ?_
  refine C.ic dX4_become_25 ?_
  refine C.iload_n dX4_become_26 rfl ?_
  refine C.copyI (t := 0) (ty := .byte) (sp := 0) (dp := 0) (n := n) (g1 := a 12) (g2 := a 2) (n1 := 400) (n2 := 400) (fun _ => rfl) rfl (fun i hi => ?_) (om_wsL_law0_r45 _ (List.mem_of_getElem? (i := 15) rfl)) dX4_become_27 (hL _ (by decide)) rfl (hL _ (by decide)) rfl rfl rfl rfl (by omega) (by omega) (by omega) (by omega) (by decide) (by omega) (Nat.le_of_ble_eq_true rfl) ?_
  · have := hb (0 + i) (by omega)
    exact fits_byte this
  rw [kvs_2]
  refine C.aload_n dX4_become_30 rfl ?_
  refine C.iload_n dX4_become_31 rfl ?_
  refine C.kput_11 hL pf_X4_15 dX4_become_32 ?_
  refine C.vret rfl dX4_become_35 (Nat.le_refl _) (Nat.le_refl _) ⟨_, _, ?_, rfl, rfl⟩
  exact ⟨rfl, rfl, rfl⟩
