section LDSW
variable {own : String} {cc : ByteArray} {nL : Nat} {rt : Option FieldType} {ini : Bool} {d mc ms : Nat} {Po : AT} {X : XT} {ce sl pc : Nat} {L : List Nat} {f : Nat → AC} {lv : List (Option Value)} {st : List Value}
theorem Cx.ldsw (C : Cx own cc nL rt ini d mc ms Po X) {i j : Nat} {tx : String} {bs : List Int32} (dg : decode cc pc = .ok (.ldc_w i, 3)) (hj : strs[j]? = some (own, i, tx, bs))
    (k : X ce sl L f (pc + 3) lv (.ref (1000 + j) :: st)) : X ce sl L f pc lv st := by
  obtain ⟨p, l, e, s, m, args, below, meth, c, dC, dI, cy, ad, A, Q, w0, ⟨hx, hb, hml, hown, hts⟩, hin0, hK, hA, hE, had, hret, rfl⟩ := C
  intro H locs ls hP hD hS hl T hT Y
  have hZ := (hE.1 j _ hj).1
  obtain ⟨t, a1, b1⟩ := k H locs ls hP hD hS hl T hT Y
  exact ⟨t, Y.ldcStringW hx hown (text := tx) (a := ad (1000 + j)) hZ.1 hZ.2 (g := F0 m pc ls (st.map (rv ad))) rfl (by rw [hb]; exact dg) t a1, b1⟩
end LDSW
def i3 (z : Int) : Prop := -2147483648 ≤ z ∧ z < 2147483648
theorem s_in {d : Nat} {L : List Nat} {f : Nat → AC} {v lo hi : Int} (h1 : i3 v) (h2 : i3 lo) (h3 : i3 hi) : AM yX9_in cX9_in 3 (some .boolean) d 0 0 [.int (iI v), .int (iI lo), .int (iI hi)] L f (SP (some (.int (iI (b2i (decide (lo ≤ v) && decide (v ≤ hi)))))) L f) := by
  unfold i3 at h1 h2 h3
  refine AM.of (by decide +kernel) (by simp [Value.category]) (Nat.le_of_ble_eq_true rfl) false (fun h => by cases h) (fun X C => ?_)
  refine C.iload_n dX9_in_0 rfl ?_
  refine C.iload_n dX9_in_1 rfl ?_
  refine C.icmp_ltI (tgt := 14) dX9_in_2 (by decide) (by omega) (by omega) (fun hc2 => ?_) (fun hc2 => ?_)
  · refine C.ic dX9_in_14 ?_
    refine C.retI rfl (by first | rfl | (exact (iI_bool (by first | exact Or.inl rfl | exact Or.inr rfl | assumption)).1)) dX9_in_15 (Nat.le_refl _) (Nat.le_refl _) ⟨?_, rfl, rfl⟩
    congr 3
    first | (rw [decide_eq_true (by omega : lo ≤ v), decide_eq_true (by omega : v ≤ hi)]; rfl) | (rw [decide_eq_false (by omega : ¬ lo ≤ v)]; rfl) | (rw [decide_eq_false (by omega : ¬ v ≤ hi), Bool.and_false]; rfl)
  · refine C.iload_n dX9_in_5 rfl ?_
    refine C.iload_n dX9_in_6 rfl ?_
    refine C.icmp_gtI (tgt := 14) dX9_in_7 (by decide) (by omega) (by omega) (fun hc7 => ?_) (fun hc7 => ?_)
    · refine C.ic dX9_in_14 ?_
      refine C.retI rfl (by first | rfl | (exact (iI_bool (by first | exact Or.inl rfl | exact Or.inr rfl | assumption)).1)) dX9_in_15 (Nat.le_refl _) (Nat.le_refl _) ⟨?_, rfl, rfl⟩
      congr 3
      first | (rw [decide_eq_true (by omega : lo ≤ v), decide_eq_true (by omega : v ≤ hi)]; rfl) | (rw [decide_eq_false (by omega : ¬ lo ≤ v)]; rfl) | (rw [decide_eq_false (by omega : ¬ v ≤ hi), Bool.and_false]; rfl)
    · refine C.ic dX9_in_10 ?_
      refine C.goto (tgt := 15) dX9_in_11 (by decide) ?_
      refine C.retI rfl (by first | rfl | (exact (iI_bool (by first | exact Or.inl rfl | exact Or.inr rfl | assumption)).1)) dX9_in_15 (Nat.le_refl _) (Nat.le_refl _) ⟨?_, rfl, rfl⟩
      congr 3
      first | (rw [decide_eq_true (by omega : lo ≤ v), decide_eq_true (by omega : v ≤ hi)]; rfl) | (rw [decide_eq_false (by omega : ¬ lo ≤ v)]; rfl) | (rw [decide_eq_false (by omega : ¬ v ≤ hi), Bool.and_false]; rfl)
theorem m_fault {d : Nat} {sf : SF} {sa : SA} : MM yX9_fault cX9_fault 1 (some .int) d [] sf sa (fun r sf' sa' => r = some (.int (iI (sf 25))) ∧ sf' = va_up sf 0 0 ∧ sa' = sa) := by
  refine MM.of2 (by decide +kernel) rfl (Nat.le_of_ble_eq_true rfl) (fun L g hL X C => ?_)
  refine C.aload_n dX9_fault_0 rfl ?_
  refine C.ic dX9_fault_1 ?_
  refine C.mput hL pf_X9_59 dX9_fault_2 (by decide) rfl ?_
  refine C.aload_n dX9_fault_5 rfl ?_
  refine C.mget hL gf_X9_49 dX9_fault_6 rfl ?_
  refine C.retI rfl (by first | rfl | (exact (iI_bool (by first | exact Or.inl rfl | exact Or.inr rfl | assumption)).1)) dX9_fault_9 (Nat.le_refl _) (Nat.le_refl _) ⟨_, _, ?_, rfl, rfl⟩
  exact ⟨rfl, rfl, rfl⟩
theorem m_end {d : Nat} {sf : SF} {sa : SA} {n : Nat} {z : Int} (hz : i3 z) (h21 : sf 21 = n) (hn : n ≤ 400) : MM yX9_end cX9_end 2 (some .boolean) d [.int (iI z)] sf sa (fun r sf' sa' => r = some (.int (iI (b2i (decide (0 ≤ z) && decide (z ≤ n))))) ∧ sf' = (if 0 ≤ z ∧ z ≤ n then va_up (va_up sf 0 0) 21 z else va_up sf 0 0) ∧ sa' = sa) := by
  unfold i3 at hz
  refine MM.of2 (by decide +kernel) rfl (Nat.le_of_ble_eq_true rfl) (fun L g hL X C => ?_)
  refine C.aload_n dX9_end_0 rfl ?_
  refine C.ic dX9_end_1 ?_
  refine C.mput hL pf_X9_59 dX9_end_2 (by decide) rfl ?_
  refine C.iload_n dX9_end_5 rfl ?_
  refine C.if_ltI (tgt := 17) dX9_end_6 (by decide) (by omega) (fun hc6 => ?_) (fun hc6 => ?_)
  · refine C.ic dX9_end_17 ?_
    refine C.retI rfl (by first | rfl | (exact (iI_bool (by first | exact Or.inl rfl | exact Or.inr rfl | assumption)).1)) dX9_end_18 (Nat.le_refl _) (Nat.le_refl _) ⟨_, _, ?_, rfl, rfl⟩
    first | (rw [decide_eq_false (by omega : ¬ 0 ≤ z), if_neg (by omega)]; exact ⟨rfl, rfl, rfl⟩) | (rw [decide_eq_false (by omega : ¬ z ≤ n), if_neg (by omega), Bool.and_false]; exact ⟨rfl, rfl, rfl⟩)
  · refine C.iload_n dX9_end_9 rfl ?_
    refine C.aload_n dX9_end_10 rfl ?_
    refine C.mget hL gf_X9_96 dX9_end_11 rfl ?_
    refine C.topI (b := (n : Int)) h21 ?_
    refine C.icmp_leI (tgt := 19) dX9_end_14 (by decide) (by omega) (by omega) (fun hc14 => ?_) (fun hc14 => ?_)
    · refine C.aload_n dX9_end_19 rfl ?_
      refine C.iload_n dX9_end_20 rfl ?_
      refine C.mput hL pf_X9_96 dX9_end_21 (by decide) rfl ?_
      refine C.ic dX9_end_24 ?_
      refine C.retI rfl (by first | rfl | (exact (iI_bool (by first | exact Or.inl rfl | exact Or.inr rfl | assumption)).1)) dX9_end_25 (Nat.le_refl _) (Nat.le_refl _) ⟨_, _, ?_, rfl, rfl⟩
      rw [decide_eq_true (by omega : 0 ≤ z), decide_eq_true (by omega : z ≤ n), if_pos (by omega)]
      exact ⟨rfl, rfl, rfl⟩
    · refine C.ic dX9_end_17 ?_
      refine C.retI rfl (by first | rfl | (exact (iI_bool (by first | exact Or.inl rfl | exact Or.inr rfl | assumption)).1)) dX9_end_18 (Nat.le_refl _) (Nat.le_refl _) ⟨_, _, ?_, rfl, rfl⟩
      first | (rw [decide_eq_false (by omega : ¬ 0 ≤ z), if_neg (by omega)]; exact ⟨rfl, rfl, rfl⟩) | (rw [decide_eq_false (by omega : ¬ z ≤ n), if_neg (by omega), Bool.and_false]; exact ⟨rfl, rfl, rfl⟩)
/-- the byte at i of the tape, as taped tells it -/
def tpV (tb : Nat → Int) (n : Nat) (i : Int) : Int := if 0 ≤ i ∧ i ≤ (n : Int) - 1 then (iI (tb i.toNat) &&& iI 255).toInt else -1
theorem m_taped {d : Nat} (hd : 1 ≤ d) {sf : SF} {sa : SA} {n : Nat} {z : Int} (hz : i3 z) (h21 : sf 21 = n) (hn : n ≤ 400) : MM yX9_taped cX9_taped 2 (some .int) d [.int (iI z)] sf sa (fun r sf' sa' => r = some (.int (iI (tpV (sa 32) n z))) ∧ sf' = va_up sf 0 0 ∧ sa' = sa) := by
  have hz2 := hz
  unfold i3 at hz2
  refine MM.of2 (by decide +kernel) rfl (Nat.le_of_ble_eq_true rfl) (fun L g hL X C => ?_)
  by_cases hq : 0 ≤ z ∧ z ≤ (n : Int) - 1
  · refine C.aload_n dX9_taped_0 rfl ?_
    refine C.ic dX9_taped_1 ?_
    refine C.mput hL pf_X9_59 dX9_taped_2 (by decide) rfl ?_
    refine C.iload_n dX9_taped_5 rfl ?_
    refine C.ic dX9_taped_6 ?_
    refine C.aload_n dX9_taped_7 rfl ?_
    refine C.mget hL gf_X9_96 dX9_taped_8 rfl ?_
    refine C.topI (b := (n : Int)) h21 ?_
    refine C.ic dX9_taped_11 ?_
    refine C.isubI dX9_taped_12 ?_
    refine C.callS (s_in (d := 0) (v := z) (lo := 0) (hi := (n : Int) - 1) hz ⟨by omega, by omega⟩ ⟨by omega, by omega⟩) cw_X9_in ml_X9_294 sm_X9_in dX9_taped_13 rfl (by omega) (Nat.le_refl _) (Nat.le_refl _) (Nat.le_of_ble_eq_true rfl) rfl (fun r L9 f9 h9 => ?_)
    obtain ⟨rfl, hL9, hf9⟩ := h9
    rw [hL9, hf9]
    clear hL9 hf9
    rw [decide_eq_true hq.1, decide_eq_true hq.2]
    refine C.if_eqI (tgt := 32) dX9_taped_16 (by decide) (by decide) (fun hc16 => absurd hc16 (by decide)) (fun hc16 => ?_)
    refine C.aload_n dX9_taped_19 rfl ?_
    refine C.mget hL gf_X9_45 dX9_taped_20 rfl ?_
    refine C.iload_n dX9_taped_23 rfl ?_
    refine C.maldbk hL (k := z.toNat) dX9_taped_24 (by decide) rfl (by decide) (by omega) (by omega) ?_
    refine C.si dX9_taped_25 (by decide) ?_
    refine C.iand dX9_taped_28 ?_
    rw [show iI (sa 32 z.toNat) &&& iI 255 = iI (tpV (sa 32) n z) by unfold tpV; rw [if_pos hq]; exact (Int32.ofInt_toInt _).symm]
    refine C.goto (tgt := 33) dX9_taped_29 (by decide) ?_
    refine C.retI rfl (by first | rfl | (exact (iI_bool (by first | exact Or.inl rfl | exact Or.inr rfl | assumption)).1)) dX9_taped_33 (Nat.le_refl _) (Nat.le_refl _) ⟨_, _, ?_, rfl, rfl⟩
    exact ⟨rfl, rfl, rfl⟩
  · refine C.aload_n dX9_taped_0 rfl ?_
    refine C.ic dX9_taped_1 ?_
    refine C.mput hL pf_X9_59 dX9_taped_2 (by decide) rfl ?_
    refine C.iload_n dX9_taped_5 rfl ?_
    refine C.ic dX9_taped_6 ?_
    refine C.aload_n dX9_taped_7 rfl ?_
    refine C.mget hL gf_X9_96 dX9_taped_8 rfl ?_
    refine C.topI (b := (n : Int)) h21 ?_
    refine C.ic dX9_taped_11 ?_
    refine C.isubI dX9_taped_12 ?_
    refine C.callS (s_in (d := 0) (v := z) (lo := 0) (hi := (n : Int) - 1) hz ⟨by omega, by omega⟩ ⟨by omega, by omega⟩) cw_X9_in ml_X9_294 sm_X9_in dX9_taped_13 rfl (by omega) (Nat.le_refl _) (Nat.le_refl _) (Nat.le_of_ble_eq_true rfl) rfl (fun r L9 f9 h9 => ?_)
    obtain ⟨rfl, hL9, hf9⟩ := h9
    rw [hL9, hf9]
    clear hL9 hf9
    rw [show (decide (0 ≤ z) && decide (z ≤ (n : Int) - 1)) = false by simp only [Bool.and_eq_false_imp, decide_eq_true_eq, decide_eq_false_iff_not]; omega]
    refine C.if_eqI (tgt := 32) dX9_taped_16 (by decide) (by decide) (fun hc16 => ?_) (fun hc16 => absurd hc16 (by decide))
    refine C.ic dX9_taped_32 ?_
    refine C.retI rfl (by first | rfl | (exact (iI_bool (by first | exact Or.inl rfl | exact Or.inr rfl | assumption)).1)) dX9_taped_33 (Nat.le_refl _) (Nat.le_refl _) ⟨_, _, ?_, rfl, rfl⟩
    refine ⟨?_, rfl, rfl⟩
    unfold tpV
    rw [if_neg hq]
/-- a byte of a number that is fed -/
def fb (z s : Int) : Int := (iI z >>> (iI s &&& 31)).toInt8.toInt
theorem fb_rng (z s : Int) : -128 ≤ fb z s ∧ fb z s < 128 := by
  unfold fb
  have h1 := Int8.le_toInt (iI z >>> (iI s &&& 31)).toInt8
  have h2 := Int8.toInt_lt (iI z >>> (iI s &&& 31)).toInt8
  omega
theorem fb_iI (z s : Int) : (iI z >>> (iI s &&& 31)).toInt8.toInt32 = iI (fb z s) := by
  apply Int32.toInt.inj
  have h := fb_rng z s
  rw [iI_toInt (by omega), Int8.toInt_toInt32]
  rfl
def fdL (zs : List Int) : List Int := (List.range 20).map (fun k => fb (zs.getD (k / 4) 0) (24 - 8 * ((k % 4 : Nat) : Int)))
set_option maxRecDepth 20000 in
theorem m_feed {d : Nat} {sf : SF} {sa : SA} {n : Nat} {z0 z1 z2 z3 z4 : Int} (h21 : sf 21 = n) (hn : n ≤ 400) : MM yX9_feed cX9_feed 7 (some .int) d [.int (iI z0), .int (iI z1), .int (iI z2), .int (iI z3), .int (iI z4)] sf sa (fun r sf' sa' => r = some (.int (iI (if n + 20 ≤ 400 then (n : Int) + 20 else -1))) ∧ sf' = (if n + 20 ≤ 400 then va_up (va_up sf 0 0) 21 ((n : Int) + 20) else va_up sf 0 0) ∧ (∀ a, a ≠ 33 → sa' a = if n + 20 ≤ 400 then wrS sa 32 n (fdL [z0, z1, z2, z3, z4]) a else sa a)) := by
  refine MM.of2 (by decide +kernel) rfl (Nat.le_of_ble_eq_true rfl) (fun L g hL X C => ?_)
  by_cases hq : n + 20 ≤ 400
  · have loop : ∀ (m k : Nat) (sac : SA), k + m = 20 → (∀ i, i < 5 → sac 33 i = [z0, z1, z2, z3, z4].getD i 0) → (∀ a, a ≠ 33 → sac a = wrS sa 32 n ((fdL [z0, z1, z2, z3, z4]).take k) a) → X 0 0 L (ov (va_up sf 0 0) sac g) 60 [some (.ref 20), some (.int (iI z0)), some (.int (iI z1)), some (.int (iI z2)), some (.int (iI z3)), some (.int (iI z4)), some (.int (iI k))] [] := by
      intro m
      induction m with
      | zero =>
        intro k sac hk h33 hs
        obtain rfl : k = 20 := by omega
        refine C.iload dX9_feed_60 rfl ?_
        refine C.bi dX9_feed_62 (by decide) ?_
        refine C.icmp_geI (tgt := 106) dX9_feed_64 (by decide) (by omega) (by omega) (fun hc64 => ?_) (fun hc64 => absurd hc64 (by omega))
        refine C.aload_n dX9_feed_106 rfl ?_
        refine C.dup dX9_feed_107 rfl ?_
        refine C.mget hL gf_X9_96 dX9_feed_108 rfl ?_
        refine C.topI (b := (n : Int)) h21 ?_
        refine C.bi dX9_feed_111 (by decide) ?_
        refine C.iaddI dX9_feed_113 ?_
        refine C.mput hL pf_X9_96 dX9_feed_114 (by decide) rfl ?_
        refine C.aload_n dX9_feed_117 rfl ?_
        refine C.mget hL gf_X9_96 dX9_feed_118 rfl ?_
        refine C.retI rfl (by first | rfl | (exact (iI_bool (by first | exact Or.inl rfl | exact Or.inr rfl | assumption)).1)) dX9_feed_121 (Nat.le_refl _) (Nat.le_refl _) ⟨_, _, ?_, rfl, rfl⟩
        refine ⟨by rw [if_pos hq]; rfl, by rw [if_pos hq], fun a ha => ?_⟩
        rw [if_pos hq, hs a ha, List.take_of_length_le (Nat.le_of_ble_eq_true rfl)]
      | succ m ih =>
        intro k sac hk h33 hs
        have e5 : sac 33 (k / 4) = [z0, z1, z2, z3, z4].getD (k / 4) 0 := h33 _ (by omega)
        have hr := fb_rng ([z0, z1, z2, z3, z4].getD (k / 4) 0) (24 - 8 * ((k % 4 : Nat) : Int))
        refine C.iload dX9_feed_60 rfl ?_
        refine C.bi dX9_feed_62 (by decide) ?_
        refine C.icmp_geI (tgt := 106) dX9_feed_64 (by decide) (by omega) (by omega) (fun hc64 => absurd hc64 (by omega)) (fun hc64 => ?_)
        refine C.aload_n dX9_feed_67 rfl ?_
        refine C.mget hL gf_X9_45 dX9_feed_68 rfl ?_
        refine C.aload_n dX9_feed_71 rfl ?_
        refine C.mget hL gf_X9_96 dX9_feed_72 rfl ?_
        refine C.topI (b := (n : Int)) h21 ?_
        refine C.iload dX9_feed_75 rfl ?_
        refine C.iaddI dX9_feed_77 ?_
        refine C.aload_n dX9_feed_78 rfl ?_
        refine C.mget hL gf_X9_53 dX9_feed_79 rfl ?_
        refine C.iload dX9_feed_82 rfl ?_
        refine C.ic dX9_feed_84 ?_
        refine C.idivI dX9_feed_85 (by omega) (by omega) ?_
        refine C.maldk hL (k := k / 4) dX9_feed_86 (by decide) rfl (by decide) (by omega) (by omega) ?_
        rw [e5]
        refine C.bi dX9_feed_87 (by decide) ?_
        refine C.bi dX9_feed_89 (by decide) ?_
        refine C.iload dX9_feed_91 rfl ?_
        refine C.ic dX9_feed_93 ?_
        refine C.iremI dX9_feed_94 (by omega) (by omega) ?_
        refine C.imulI dX9_feed_95 ?_
        refine C.isubI dX9_feed_96 ?_
        refine C.topI (b := 24 - 8 * ((k % 4 : Nat) : Int)) (by omega) ?_
        refine C.ishr dX9_feed_97 ?_
        refine C.i2b dX9_feed_98 ?_
        rw [fb_iI]
        refine C.mastbk hL (k := n + k) (ovs_32 _ _ _) dX9_feed_99 (by decide) rfl (by decide) (by omega) (by omega) hr ?_
        refine C.iincI dX9_feed_100 rfl (by decide) rfl ?_
        refine C.goto (tgt := 60) dX9_feed_103 (by decide) ?_
        refine ih (k + 1) _ (by omega) (fun i hi => ?_) (fun a ha => ?_)
        · rw [va_up_ne _ _ (by decide)]
          exact h33 i hi
        · have hl : (fdL [z0, z1, z2, z3, z4]).length = 20 := rfl
          have ht : (fdL [z0, z1, z2, z3, z4]).take (k + 1) = (fdL [z0, z1, z2, z3, z4]).take k ++ [fb ([z0, z1, z2, z3, z4].getD (k / 4) 0) (24 - 8 * ((k % 4 : Nat) : Int))] := by
            rw [List.take_succ_eq_append_getElem (by rw [hl]; omega)]
            congr 2
            unfold fdL
            rw [List.getElem_map, List.getElem_range]
          rw [ht, ← wrS_app, List.length_take, hl, Nat.min_eq_left (by omega), ← wrS_one]
          by_cases h32 : a = 32
          · subst h32
            rw [va_up_self, va_up_self, hs 32 (by decide)]
          · rw [va_up_ne _ _ h32, va_up_ne _ _ h32, hs a ha]
    refine C.aload_n dX9_feed_0 rfl ?_
    refine C.ic dX9_feed_1 ?_
    refine C.mput hL pf_X9_59 dX9_feed_2 (by decide) rfl ?_
    refine C.aload_n dX9_feed_5 rfl ?_
    refine C.mget hL gf_X9_96 dX9_feed_6 rfl ?_
    refine C.topI (b := (n : Int)) h21 ?_
    refine C.bi dX9_feed_9 (by decide) ?_
    refine C.iaddI dX9_feed_11 ?_
    refine C.si dX9_feed_12 (by decide) ?_
    refine C.icmp_leI (tgt := 20) dX9_feed_15 (by decide) (by omega) (by omega) (fun hc15 => ?_) (fun hc15 => absurd hc15 (by omega))
    refine C.aload_n dX9_feed_20 rfl ?_
    refine C.mget hL gf_X9_53 dX9_feed_21 rfl ?_
    refine C.ic dX9_feed_24 ?_
    refine C.iload_n dX9_feed_25 rfl ?_
    refine C.mastk hL (k := 0) (ovs_33 _ _ _) dX9_feed_26 (by decide) rfl (by decide) (by omega) (by omega) ?_
    refine C.aload_n dX9_feed_27 rfl ?_
    refine C.mget hL gf_X9_53 dX9_feed_28 rfl ?_
    refine C.ic dX9_feed_31 ?_
    refine C.iload_n dX9_feed_32 rfl ?_
    refine C.mastk hL (k := 1) (ovs_33 _ _ _) dX9_feed_33 (by decide) rfl (by decide) (by omega) (by omega) ?_
    refine C.aload_n dX9_feed_34 rfl ?_
    refine C.mget hL gf_X9_53 dX9_feed_35 rfl ?_
    refine C.ic dX9_feed_38 ?_
    refine C.iload_n dX9_feed_39 rfl ?_
    refine C.mastk hL (k := 2) (ovs_33 _ _ _) dX9_feed_40 (by decide) rfl (by decide) (by omega) (by omega) ?_
    refine C.aload_n dX9_feed_41 rfl ?_
    refine C.mget hL gf_X9_53 dX9_feed_42 rfl ?_
    refine C.ic dX9_feed_45 ?_
    refine C.iload dX9_feed_46 rfl ?_
    refine C.mastk hL (k := 3) (ovs_33 _ _ _) dX9_feed_48 (by decide) rfl (by decide) (by omega) (by omega) ?_
    refine C.aload_n dX9_feed_49 rfl ?_
    refine C.mget hL gf_X9_53 dX9_feed_50 rfl ?_
    refine C.ic dX9_feed_53 ?_
    refine C.iload dX9_feed_54 rfl ?_
    refine C.mastk hL (k := 4) (ovs_33 _ _ _) dX9_feed_56 (by decide) rfl (by decide) (by omega) (by omega) ?_
    refine C.ic dX9_feed_57 ?_
    refine C.istore dX9_feed_58 (by decide) rfl ?_
    refine loop 20 0 _ rfl (fun i hi => ?_) (fun a ha => ?_)
    · rcases (show i = 0 ∨ i = 1 ∨ i = 2 ∨ i = 3 ∨ i = 4 by omega) with rfl | rfl | rfl | rfl | rfl <;> rfl
    · rw [List.take_zero, wrS_nil]
      simp only [va_up_ne _ _ ha]
  · refine C.aload_n dX9_feed_0 rfl ?_
    refine C.ic dX9_feed_1 ?_
    refine C.mput hL pf_X9_59 dX9_feed_2 (by decide) rfl ?_
    refine C.aload_n dX9_feed_5 rfl ?_
    refine C.mget hL gf_X9_96 dX9_feed_6 rfl ?_
    refine C.topI (b := (n : Int)) h21 ?_
    refine C.bi dX9_feed_9 (by decide) ?_
    refine C.iaddI dX9_feed_11 ?_
    refine C.si dX9_feed_12 (by decide) ?_
    refine C.icmp_leI (tgt := 20) dX9_feed_15 (by decide) (by omega) (by omega) (fun hc15 => absurd hc15 (by omega)) (fun hc15 => ?_)
    refine C.ic dX9_feed_18 ?_
    refine C.retI rfl (by first | rfl | (exact (iI_bool (by first | exact Or.inl rfl | exact Or.inr rfl | assumption)).1)) dX9_feed_19 (Nat.le_refl _) (Nat.le_refl _) ⟨_, _, ?_, rfl, rfl⟩
    exact ⟨by rw [if_neg hq], by rw [if_neg hq], fun a ha => by rw [if_neg hq]⟩
