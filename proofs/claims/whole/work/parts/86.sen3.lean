/-! sentences made of sentences -/
section IASTI
variable {own : String} {cc : ByteArray} {nL : Nat} {rt : Option FieldType} {ini : Bool} {d mc ms : Nat} {Po : AT} {X : XT} {ce sl pc : Nat} {L : List Nat} {f : Nat → AC} {lv : List (Option Value)} {st : List Value}
theorem Cx.iastI (C : Cx own cc nL rt ini d mc ms Po X) {k n i : Nat} {g : Nat → Int} {z x : Int} (dg : decode cc pc = .ok (.iastore, 1)) (hk : k ∈ L) (hf : f k = aI n g) (hz : z = i) (hi : i < n) (hn : n < 2147483648)
    (kk : X ce sl L (va_up f k (aI n (va_up g i x))) (pc + 1) lv st) : X ce sl L f pc lv (.int (iI x) :: .int (iI z) :: .ref k :: st) := by
  subst hz
  refine C.iast dg hk hf (iI_in (by omega) (by omega) hn) ?_
  rw [iI_clamp (by omega), Int.toNat_natCast, iI_upd]
  exact kk
end IASTI
theorem ez_hn (t : TT) (ht : isT t) : hn (ez t) = false := by
  have key : ∀ t, isT t → hn (ez t) = false ∧ ∀ c, t = .not c → hn (ez c) = false := by
    refine isT_ind (P := fun t => hn (ez t) = false ∧ ∀ c, t = .not c → hn (ez c) = false) ?_ ?_ ?_ ?_
    · intro n hn; exact ⟨rfl, fun c h => by cases h⟩
    · intro c hc ih
      refine ⟨?_, fun c' h => by cases h; exact ih.1⟩
      by_cases hq : ∀ c2, c ≠ .not c2
      · rw [ez_not hq]
        rcases isT_small hc with ⟨n, h5, rfl⟩ | ⟨c3, h5, rfl⟩ | ⟨a, b, h5, h6, rfl⟩ | ⟨a, b, h5, h6, rfl⟩
        · rfl
        · exact absurd rfl (hq c3)
        · exact ih.1
        · exact ih.1
      · have : ∃ c2, c = .not c2 := by
          apply Classical.byContradiction
          intro h
          exact hq (fun c2 e => h ⟨c2, e⟩)
        obtain ⟨c2, rfl⟩ := this
        exact ih.2 c2 rfl
    · intro a b _ _ ha hb
      exact ⟨by simp only [ez, hn, ha.1, hb.1]; rfl, fun c h => by cases h⟩
    · intro a b _ _ ha hb
      exact ⟨by simp only [ez, hn, ha.1, hb.1]; rfl, fun c h => by cases h⟩
  exact (key t ht).1
section SEN3
variable {d D k : Nat} {x : Sen} {L : List Nat} {f : Nat → AC}
theorem s_price {n : Int} (hd : 1 ≤ d) (hn : 0 ≤ n ∧ n ≤ 3) (h : SAt L f D k x) (hx : SOk x) : AM yX3_price cX3_price 3 (some .int) d 0 0 [.ref k, .int (iI n)] L f (SP (some (.int (iI (prS x n)))) L f) := by
  have M1 := s_words (d := d - 1) hn h hx
  have M2 := s_nots (d := d - 1) h
  obtain ⟨⟨hk, hk2⟩, e, w, u, hf, he, hw, hu⟩ := h
  obtain ⟨⟨-, a1, a2, a3, -⟩, a4⟩ := hx
  have w1 := wdO_rng hw
  have w2 := wdO_rng hu
  have hr : 0 ≤ wdS x n + 1 ∧ wdS x n ≤ 4000 := by
    unfold wdS
    repeat' split
    all_goals omega
  refine AM.of (by decide +kernel) (by simp [Value.category]) (Nat.le_of_ble_eq_true rfl) false (fun h => by cases h) (fun X C => ?_)
  have j19 : ∀ z : Int, z = (if x.1.2.2.2 = 0 then 0 else 3) → X 0 0 L f 19 [some (.ref k), some (.int (iI n)), some (.int (iI (wdS x n)))] [.int (iI z), .int (iI (wdS x n))] := by
    intro z hz
    refine C.iaddI dX3_price_19 ?_
    refine C.ic dX3_price_20 ?_
    refine C.aload_n dX3_price_21 rfl ?_
    refine C.callV (M2) cw_X3_nots ml_X3_96 im_X3_nots sl_X3_nots dX3_price_22 hk hf rfl rfl (by omega) (Nat.le_refl _) (Nat.le_refl _) (Nat.le_of_ble_eq_true rfl) rfl (fun r22 L22 f22 hR22 => ?_)
    obtain ⟨rfl, hL9, hf9⟩ := hR22
    rw [hL9, hf9]
    clear hL9 hf9
    refine C.imulI dX3_price_25 ?_
    refine C.iaddI dX3_price_26 ?_
    refine C.aload_n dX3_price_27 rfl ?_
    refine C.getf gf_X3_33 dX3_price_28 hk hf rfl ?_
    skip
    rcases hu.cases with ⟨rfl, eu⟩ | ⟨q, t, p, rfl, eu, hC, ht, hl, hqL, hfq⟩
    · have hI : (if isS x.2.2.2 = true then (4 : Int) else 0) = 0 := by rw [eu]; rfl
      refine C.ifnonnullN dX3_price_31 ?_
      refine C.ic dX3_price_34 ?_
      refine C.goto (tgt := 39) dX3_price_35 (by decide) ?_
      refine C.iaddI dX3_price_39 ?_
      refine C.ic dX3_price_40 ?_
      refine C.ic dX3_price_41 ?_
      refine C.iload_n dX3_price_42 rfl ?_
      refine C.bi dX3_price_43 (by decide) ?_
      refine C.isubI dX3_price_45 ?_
      refine C.mmax (om_wsL_law0_r34 _ (List.mem_of_getElem? (i := 23) rfl)) (by omega) (by omega) (by omega) (Nat.le_refl _) (Nat.le_refl _) (Nat.le_of_ble_eq_true rfl) dX3_price_46 ?_
      refine C.imulI dX3_price_49 ?_
      refine C.iaddI dX3_price_50 ?_
      refine C.ic dX3_price_51 ?_
      refine C.iaddI dX3_price_52 ?_
      refine C.topI (b := prS x n) (by unfold prS; rw [hI, hz]) ?_
      refine C.retI rfl (by first | rfl | (exact (iI_bool (by first | exact Or.inl rfl | exact Or.inr rfl | assumption)).1)) dX3_price_53 (Nat.le_refl _) (Nat.le_refl _) ⟨rfl, rfl, rfl⟩
      skip
    · have hI : (if isS x.2.2.2 = true then (4 : Int) else 0) = 4 := by rw [eu]; rfl
      refine C.ifnonnull (tgt := 38) dX3_price_31 (by decide) ?_
      refine C.ic dX3_price_38 ?_
      refine C.iaddI dX3_price_39 ?_
      refine C.ic dX3_price_40 ?_
      refine C.ic dX3_price_41 ?_
      refine C.iload_n dX3_price_42 rfl ?_
      refine C.bi dX3_price_43 (by decide) ?_
      refine C.isubI dX3_price_45 ?_
      refine C.mmax (om_wsL_law0_r34 _ (List.mem_of_getElem? (i := 23) rfl)) (by omega) (by omega) (by omega) (Nat.le_refl _) (Nat.le_refl _) (Nat.le_of_ble_eq_true rfl) dX3_price_46 ?_
      refine C.imulI dX3_price_49 ?_
      refine C.iaddI dX3_price_50 ?_
      refine C.ic dX3_price_51 ?_
      refine C.iaddI dX3_price_52 ?_
      refine C.topI (b := prS x n) (by unfold prS; rw [hI, hz]) ?_
      refine C.retI rfl (by first | rfl | (exact (iI_bool (by first | exact Or.inl rfl | exact Or.inr rfl | assumption)).1)) dX3_price_53 (Nat.le_refl _) (Nat.le_refl _) ⟨rfl, rfl, rfl⟩
      skip
  refine C.aload_n dX3_price_0 rfl ?_
  refine C.iload_n dX3_price_1 rfl ?_
  refine C.callV (M1) cw_X3_words ml_X3_93 im_X3_words sl_X3_words dX3_price_2 hk hf rfl rfl (by omega) (Nat.le_refl _) (Nat.le_refl _) (Nat.le_of_ble_eq_true rfl) rfl (fun r2 L2 f2 hR2 => ?_)
  obtain ⟨rfl, hL9, hf9⟩ := hR2
  rw [hL9, hf9]
  clear hL9 hf9
  refine C.istore_n dX3_price_5 (by decide) rfl ?_
  refine C.iload_n dX3_price_6 rfl ?_
  refine C.aload_n dX3_price_7 rfl ?_
  refine C.getf gf_X3_21 dX3_price_8 hk hf rfl ?_
  refine C.if_eqI (tgt := 18) dX3_price_11 (by decide) (by omega) (fun hc11 => ?_) (fun hc11 => ?_)
  · refine C.ic dX3_price_18 ?_
    exact j19 _ (by first | rw [if_pos hc11] | rw [if_neg hc11])
  · refine C.ic dX3_price_14 ?_
    refine C.goto (tgt := 19) dX3_price_15 (by decide) ?_
    exact j19 _ (by first | rw [if_pos hc11] | rw [if_neg hc11])
theorem s_canEase (h : SAt L f D k x) : AM yX3_canEase cX3_canEase 1 (some .boolean) d 0 0 [.ref k] L f (SP (some (.int (iI (b2i (canE x))))) L f) := by
  obtain ⟨⟨hk, hk2⟩, e, w, u, hf, he, hw, hu⟩ := h
  refine AM.of (by decide +kernel) (by simp [Value.category]) (Nat.le_of_ble_eq_true rfl) false (fun h => by cases h) (fun X C => ?_)
  refine C.aload_n dX3_canEase_0 rfl ?_
  refine C.getf gf_X3_33 dX3_canEase_1 hk hf rfl ?_
  skip
  rcases hu.cases with ⟨rfl, eu⟩ | ⟨q, t, p, rfl, eu, hC, ht, hl, hqL, hfq⟩
  · have hcE : canE x = !decide (ntO (ezO x.2.2.1 none) = ntO x.2.2.1) := by unfold canE; rw [eu]; rfl
    refine C.ifnonnullN dX3_canEase_4 ?_
    refine C.aload_n dX3_canEase_7 rfl ?_
    refine C.getf gf_X3_29 dX3_canEase_8 hk hf rfl ?_
    skip
    rcases hw.cases with ⟨rfl, ew⟩ | ⟨q, t, p, rfl, ew, hC, ht, hl, hqL, hfq⟩
    · have hz : canE x = false := by rw [hcE, ew]; rfl
      refine C.ifnullN (tgt := 28) dX3_canEase_11 (by decide) ?_
      refine C.ic dX3_canEase_28 ?_
      refine C.retI rfl (by first | rfl | (exact (iI_bool (by first | exact Or.inl rfl | exact Or.inr rfl | assumption)).1)) dX3_canEase_29 (Nat.le_refl _) (Nat.le_refl _) ⟨by rw [hz]; rfl, rfl, rfl⟩
      skip
    · have hz : canE x = hn t := by
        rw [hcE, ew]
        show (!decide (nt (ez t) = nt t)) = hn t
        cases hh : hn t with
        | false => rw [ez_id t ht hh]; simp
        | true =>
          have hne : ¬ nt (ez t) = nt t := fun e => by
            have := (ez_nt t ht).2 e
            have h2 := ez_hn t ht
            rw [this, hh] at h2
            exact absurd h2 (by decide)
          rw [decide_eq_false hne]
          rfl
      refine C.ifnull dX3_canEase_11 ?_
      refine C.aload_n dX3_canEase_14 rfl ?_
      refine C.getf gf_X3_29 dX3_canEase_15 hk hf rfl ?_
      refine C.getf gf_X3_43 dX3_canEase_18 hqL hfq rfl ?_
      refine C.if_eqI (tgt := 28) dX3_canEase_21 (by decide) (b2i_r3 _) (fun hc21 => ?_) (fun hc21 => ?_)
      · refine C.ic dX3_canEase_28 ?_
        refine C.topI (b := b2i (hn t)) (by first | exact hc21.symm | (rw [b2i_t hc21]; rfl)) ?_
        refine C.retI rfl (iI_bool (b2i_01 _)).1 dX3_canEase_29 (Nat.le_refl _) (Nat.le_refl _) ⟨by rw [hz], rfl, rfl⟩
        skip
      · refine C.ic dX3_canEase_24 ?_
        refine C.goto (tgt := 29) dX3_canEase_25 (by decide) ?_
        refine C.topI (b := b2i (hn t)) (by first | exact hc21.symm | (rw [b2i_t hc21]; rfl)) ?_
        refine C.retI rfl (iI_bool (b2i_01 _)).1 dX3_canEase_29 (Nat.le_refl _) (Nat.le_refl _) ⟨by rw [hz], rfl, rfl⟩
        skip
  · have hz : canE x = true := by unfold canE; rw [eu]; rfl
    refine C.ifnonnull (tgt := 24) dX3_canEase_4 (by decide) ?_
    refine C.ic dX3_canEase_24 ?_
    refine C.goto (tgt := 29) dX3_canEase_25 (by decide) ?_
    refine C.retI rfl (by first | rfl | (exact (iI_bool (by first | exact Or.inl rfl | exact Or.inr rfl | assumption)).1)) dX3_canEase_29 (Nat.le_refl _) (Nat.le_refl _) ⟨by rw [hz]; rfl, rfl, rfl⟩
    skip
theorem s_trait {z : Int} (hd : 2 ≤ d) (hz : 0 ≤ z ∧ z ≤ 8) (h : SAt L f D k x) (hx : SOk x) : AM yX3_trait cX3_trait 2 (some .int) d 0 0 [.ref k, .int (iI z)] L f (SP (some (.int (iI (lkV x z)))) L f) := by
  have hlen := hx.1.1.1
  have M1 := s_words (d := d - 1) (n := x.1.1.length) (by omega) h hx
  have M2 := s_price (d := d - 1) (n := x.1.1.length) (by omega) (by omega) h hx
  have M3 := s_nots (d := d - 1) h
  rw [wdS_snW hx] at M1
  rw [prS_csS hx] at M2
  obtain ⟨⟨hk, hk2⟩, e, w, u, hf, ⟨he, he2, g, hfe, hg⟩, hw, hu⟩ := h
  obtain ⟨⟨-, a1, a2, a3, -⟩, a4⟩ := hx
  have : z = 0 ∨ z = 1 ∨ z = 2 ∨ z = 3 ∨ z = 4 ∨ z = 5 ∨ z = 6 ∨ z = 7 ∨ z = 8 := by omega
  refine AM.of (by decide +kernel) (by simp [Value.category]) (Nat.le_of_ble_eq_true rfl) false (fun h => by cases h) (fun X C => ?_)
  rcases this with rfl | rfl | rfl | rfl | rfl | rfl | rfl | rfl | rfl
  · refine C.iload_n dX3_trait_0 rfl ?_
    refine C.tableIn (tgt := 52) dX3_trait_1 (by decide) (by decide) rfl (by decide) ?_
    refine C.aload_n dX3_trait_52 rfl ?_
    refine C.getf gf_X3_25 dX3_trait_53 hk hf rfl ?_
    refine C.alenI dX3_trait_56 he hfe (by decide) ?_
    refine C.retI rfl (by first | rfl | (exact (iI_bool (by first | exact Or.inl rfl | exact Or.inr rfl | assumption)).1)) dX3_trait_57 (Nat.le_refl _) (Nat.le_refl _) ⟨rfl, rfl, rfl⟩
    skip
  · refine C.iload_n dX3_trait_0 rfl ?_
    refine C.tableIn (tgt := 58) dX3_trait_1 (by decide) (by decide) rfl (by decide) ?_
    refine C.aload_n dX3_trait_58 rfl ?_
    refine C.getf gf_X3_9 dX3_trait_59 hk hf rfl ?_
    refine C.retI rfl (by first | rfl | (exact (iI_bool (by first | exact Or.inl rfl | exact Or.inr rfl | assumption)).1)) dX3_trait_62 (Nat.le_refl _) (Nat.le_refl _) ⟨rfl, rfl, rfl⟩
    skip
  · refine C.iload_n dX3_trait_0 rfl ?_
    refine C.tableIn (tgt := 63) dX3_trait_1 (by decide) (by decide) rfl (by decide) ?_
    refine C.aload_n dX3_trait_63 rfl ?_
    refine C.getf gf_X3_15 dX3_trait_64 hk hf rfl ?_
    refine C.retI rfl (by first | rfl | (exact (iI_bool (by first | exact Or.inl rfl | exact Or.inr rfl | assumption)).1)) dX3_trait_67 (Nat.le_refl _) (Nat.le_refl _) ⟨rfl, rfl, rfl⟩
    skip
  · refine C.iload_n dX3_trait_0 rfl ?_
    refine C.tableIn (tgt := 68) dX3_trait_1 (by decide) (by decide) rfl (by decide) ?_
    refine C.aload_n dX3_trait_68 rfl ?_
    refine C.getf gf_X3_18 dX3_trait_69 hk hf rfl ?_
    refine C.retI rfl (by first | rfl | (exact (iI_bool (by first | exact Or.inl rfl | exact Or.inr rfl | assumption)).1)) dX3_trait_72 (Nat.le_refl _) (Nat.le_refl _) ⟨rfl, rfl, rfl⟩
    skip
  · refine C.iload_n dX3_trait_0 rfl ?_
    refine C.tableIn (tgt := 73) dX3_trait_1 (by decide) (by decide) rfl (by decide) ?_
    refine C.aload_n dX3_trait_73 rfl ?_
    refine C.getf gf_X3_21 dX3_trait_74 hk hf rfl ?_
    refine C.if_eqI (tgt := 84) dX3_trait_77 (by decide) (by omega) (fun hc77 => ?_) (fun hc77 => ?_)
    · refine C.ic dX3_trait_84 ?_
      refine C.topI (b := x.1.2.2.2) (by omega) ?_
      refine C.retI rfl (by first | rfl | (exact (iI_bool (by first | exact Or.inl rfl | exact Or.inr rfl | assumption)).1)) dX3_trait_85 (Nat.le_refl _) (Nat.le_refl _) ⟨rfl, rfl, rfl⟩
      skip
    · refine C.ic dX3_trait_80 ?_
      refine C.goto (tgt := 85) dX3_trait_81 (by decide) ?_
      refine C.topI (b := x.1.2.2.2) (by omega) ?_
      refine C.retI rfl (by first | rfl | (exact (iI_bool (by first | exact Or.inl rfl | exact Or.inr rfl | assumption)).1)) dX3_trait_85 (Nat.le_refl _) (Nat.le_refl _) ⟨rfl, rfl, rfl⟩
      skip
  · refine C.iload_n dX3_trait_0 rfl ?_
    refine C.tableIn (tgt := 86) dX3_trait_1 (by decide) (by decide) rfl (by decide) ?_
    refine C.aload_n dX3_trait_86 rfl ?_
    refine C.aload_n dX3_trait_87 rfl ?_
    refine C.getf gf_X3_25 dX3_trait_88 hk hf rfl ?_
    refine C.alenI dX3_trait_91 he hfe (by decide) ?_
    refine C.callV (M1) cw_X3_words ml_X3_93 im_X3_words sl_X3_words dX3_trait_92 hk hf rfl rfl (by omega) (Nat.le_refl _) (Nat.le_refl _) (Nat.le_of_ble_eq_true rfl) rfl (fun r92 L92 f92 hR92 => ?_)
    obtain ⟨rfl, hL9, hf9⟩ := hR92
    rw [hL9, hf9]
    clear hL9 hf9
    refine C.retI rfl (by first | rfl | (exact (iI_bool (by first | exact Or.inl rfl | exact Or.inr rfl | assumption)).1)) dX3_trait_95 (Nat.le_refl _) (Nat.le_refl _) ⟨rfl, rfl, rfl⟩
    skip
  · refine C.iload_n dX3_trait_0 rfl ?_
    refine C.tableIn (tgt := 96) dX3_trait_1 (by decide) (by decide) rfl (by decide) ?_
    refine C.aload_n dX3_trait_96 rfl ?_
    refine C.aload_n dX3_trait_97 rfl ?_
    refine C.getf gf_X3_25 dX3_trait_98 hk hf rfl ?_
    refine C.alenI dX3_trait_101 he hfe (by decide) ?_
    refine C.callV (M2) cw_X3_price ml_X3_105 im_X3_price sl_X3_price dX3_trait_102 hk hf rfl rfl (by omega) (Nat.le_refl _) (Nat.le_refl _) (Nat.le_of_ble_eq_true rfl) rfl (fun r102 L102 f102 hR102 => ?_)
    obtain ⟨rfl, hL9, hf9⟩ := hR102
    rw [hL9, hf9]
    clear hL9 hf9
    refine C.retI rfl (by first | rfl | (exact (iI_bool (by first | exact Or.inl rfl | exact Or.inr rfl | assumption)).1)) dX3_trait_105 (Nat.le_refl _) (Nat.le_refl _) ⟨rfl, rfl, rfl⟩
    skip
  · refine C.iload_n dX3_trait_0 rfl ?_
    refine C.tableIn (tgt := 106) dX3_trait_1 (by decide) (by decide) rfl (by decide) ?_
    refine C.aload_n dX3_trait_106 rfl ?_
    refine C.callV (M3) cw_X3_nots ml_X3_96 im_X3_nots sl_X3_nots dX3_trait_107 hk hf rfl rfl (by omega) (Nat.le_refl _) (Nat.le_refl _) (Nat.le_of_ble_eq_true rfl) rfl (fun r107 L107 f107 hR107 => ?_)
    obtain ⟨rfl, hL9, hf9⟩ := hR107
    rw [hL9, hf9]
    clear hL9 hf9
    refine C.retI rfl (by first | rfl | (exact (iI_bool (by first | exact Or.inl rfl | exact Or.inr rfl | assumption)).1)) dX3_trait_110 (Nat.le_refl _) (Nat.le_refl _) ⟨rfl, rfl, rfl⟩
    skip
  · have hl8 : lkV x 8 = b2i (isS x.2.2.2) := rfl
    refine C.iload_n dX3_trait_0 rfl ?_
    refine C.tableIn (tgt := 111) dX3_trait_1 (by decide) (by decide) rfl (by decide) ?_
    refine C.aload_n dX3_trait_111 rfl ?_
    refine C.getf gf_X3_33 dX3_trait_112 hk hf rfl ?_
    skip
    rcases hu.cases with ⟨rfl, eu⟩ | ⟨q, t, p, rfl, eu, hC, ht, hl, hqL, hfq⟩
    · skip
      refine C.ifnonnullN dX3_trait_115 ?_
      refine C.ic dX3_trait_118 ?_
      refine C.goto (tgt := 123) dX3_trait_119 (by decide) ?_
      refine C.retI rfl (by first | rfl | (exact (iI_bool (by first | exact Or.inl rfl | exact Or.inr rfl | assumption)).1)) dX3_trait_123 (Nat.le_refl _) (Nat.le_refl _) ⟨by rw [hl8, eu]; rfl, rfl, rfl⟩
      skip
    · skip
      refine C.ifnonnull (tgt := 122) dX3_trait_115 (by decide) ?_
      refine C.ic dX3_trait_122 ?_
      refine C.retI rfl (by first | rfl | (exact (iI_bool (by first | exact Or.inl rfl | exact Or.inr rfl | assumption)).1)) dX3_trait_123 (Nat.le_refl _) (Nat.le_refl _) ⟨by rw [hl8, eu]; rfl, rfl, rfl⟩
      skip
theorem s_withAct {i : Nat} {v : Int} (hd : 3 ≤ d) (hv : x.1.1[i]? = some v) (h : SAt L f D k x) (hx : SOk x) : AM yX3_withAct cX3_withAct 3 (some (.object "PlainWords$Sentence")) d 2 8 [.ref k, .int (iI i)] L f (NwS L f D (wAct x v)) := by
  have hs := h
  obtain ⟨⟨hk, hk2⟩, e, w, u, hf, ⟨he, he2, g, hfe, hg⟩, hw, hu⟩ := h
  have hlen := hx.1.1.1
  have hi : i < x.1.1.length := (List.getElem?_eq_some_iff.mp hv).1
  refine AM.of (by decide +kernel) (by simp [Value.category]) (Nat.le_of_ble_eq_true rfl) false (fun h => by cases h) (fun X C => ?_)
  refine C.ic dX3_withAct_0 ?_
  refine C.newI (t := 1) (N := 1) rfl (fun _ => rfl) rfl (by decide) (om_wsL_law0_r3 _ (List.mem_of_getElem? (i := 2) rfl)) rfl (by omega) dX3_withAct_1 (by omega) (by omega) (fun q hq2 hqL => ?_)
  have hkq : k ≠ q := fun h => hqL (h ▸ hk)
  have heq : e ≠ q := fun h => hqL (h ▸ he)
  have hkL : k ∈ L ++ [q] := List.mem_append_left _ hk
  have heL : e ∈ L ++ [q] := List.mem_append_left _ he
  have hfk : ∀ y, va_up f q y k = .inr (6, SO x e w u) := fun y => (va_up_ne _ _ hkq).trans hf
  have hfe' : ∀ y, va_up f q y e = aI x.1.1.length g := fun y => (va_up_ne _ _ heq).trans hfe
  refine C.dup dX3_withAct_3 rfl ?_
  refine C.ic dX3_withAct_4 ?_
  refine C.iload_n dX3_withAct_5 rfl ?_
  refine C.if_ltI (tgt := 27) dX3_withAct_6 (by decide) (by omega) (fun hc6 => absurd hc6 (by omega)) (fun hc6 => ?_)
  refine C.iload_n dX3_withAct_9 rfl ?_
  refine C.aload_n dX3_withAct_10 rfl ?_
  refine C.getf gf_X3_25 dX3_withAct_11 hkL (hfk _) rfl ?_
  refine C.alenI dX3_withAct_14 heL (hfe' _) (by decide) ?_
  refine C.icmp_geI (tgt := 27) dX3_withAct_15 (by decide) (by omega) (by omega) (fun hc15 => absurd hc15 (by omega)) (fun hc15 => ?_)
  refine C.aload_n dX3_withAct_18 rfl ?_
  refine C.getf gf_X3_25 dX3_withAct_19 hkL (hfk _) rfl ?_
  refine C.iload_n dX3_withAct_22 rfl ?_
  refine C.ialdI dX3_withAct_23 heL (hfe' _) (by omega) (by omega) ?_
  rw [Int.toNat_natCast, hg i v hv]
  refine C.goto (tgt := 28) dX3_withAct_24 (by decide) ?_
  skip
  refine C.iastI (i := 0) dX3_withAct_28 (List.mem_append_right _ List.mem_cons_self) (va_up_self _ _ _) rfl (by omega) (by omega) ?_
  rw [up_up]
  have hF : ∀ y, Fo L f (L ++ [q]) (va_up f q y) := fun y => Fo.new hqL
  refine C.astore_n dX3_withAct_29 (by decide) rfl ?_
  refine C.aload_n dX3_withAct_30 rfl ?_
  refine C.aload_n dX3_withAct_31 rfl ?_
  refine C.callV (s_withActs (d := d - 1) (e := q) (xs := [v]) (by omega) (hs.keep (hF _).p) hx ⟨List.mem_append_right _ List.mem_cons_self, hq2, _, va_up_self _ _ _, fun j y hj => ?_⟩) cw_X3_withActs ml_X3_39 im_X3_withActs sl_X3_withActs dX3_withAct_32 hkL (hfk _) rfl rfl (by omega) (Nat.le_refl _) (Nat.le_refl _) (Nat.le_of_ble_eq_true rfl) rfl (fun r L9 f9 h9 => ?_)
  · have hj0 : j = 0 := by
      have := (List.getElem?_eq_some_iff.mp hj).1
      simp at this
      exact this
    subst hj0
    obtain rfl : v = y := Option.some.inj hj
    exact va_up_self _ _ _
  obtain ⟨k9, rfl, hS9, hF9⟩ := h9
  exact C.aret rfl (Or.inl ⟨_, rfl⟩) dX3_withAct_35 (Nat.le_refl _) (Nat.le_refl _) ⟨k9, rfl, hS9, (hF _).tr hF9⟩
theorem fits_int (x : Int) : fits .int (.int (iI x)) = true := rfl
set_option maxRecDepth 20000 in
set_option maxHeartbeats 2000000 in
theorem s_melted {k2 D2 : Nat} {y : Sen} (hd : 3 ≤ d) (h : SAt L f D k x) (hx : SOk x) (h' : SAt L f D2 k2 y) (hy : SOk y) : AM yX3_melted cX3_melted 3 (some (.object "PlainWords$Sentence")) d 2 13 [.ref k, .ref k2] L f (NwS L f D (mlt x y)) := by
  have hs := h
  obtain ⟨⟨hk, hk2⟩, e, w, u, hf, ⟨he, he2, g, hfe, hg⟩, hw, hu⟩ := h
  obtain ⟨⟨hk', hk2'⟩, e', w', u', hf', ⟨he', he2', g', hfe', hg'⟩, hw', hu'⟩ := h'
  have hlx := hx.1.1.1
  have hly := hy.1.1.1
  refine AM.of (by decide +kernel) (by simp [Value.category]) (Nat.le_of_ble_eq_true rfl) false (fun h => by cases h) (fun X C => ?_)
  refine C.aload_n dX3_melted_0 rfl ?_
  refine C.getf gf_X3_25 dX3_melted_1 hk hf rfl ?_
  refine C.alenI dX3_melted_4 he hfe (by decide) ?_
  refine C.aload_n dX3_melted_5 rfl ?_
  refine C.getf gf_X3_25 dX3_melted_6 hk' hf' rfl ?_
  refine C.alenI dX3_melted_9 he' hfe' (by decide) ?_
  refine C.iaddI dX3_melted_10 ?_
  skip
  refine C.newI (t := 1) (N := x.1.1.length + y.1.1.length) rfl (fun _ => rfl) rfl (by decide) (om_wsL_law0_r3 _ (List.mem_of_getElem? (i := 2) rfl)) (by omega) (by omega) dX3_melted_11 (by omega) (by omega) (fun q hq2 hqL => ?_)
  have hkq : k ≠ q := fun h => hqL (h ▸ hk)
  have heq : e ≠ q := fun h => hqL (h ▸ he)
  have hkq' : k2 ≠ q := fun h => hqL (h ▸ hk')
  have heq' : e' ≠ q := fun h => hqL (h ▸ he')
  have hkL : k ∈ L ++ [q] := List.mem_append_left _ hk
  have heL : e ∈ L ++ [q] := List.mem_append_left _ he
  have hkL' : k2 ∈ L ++ [q] := List.mem_append_left _ hk'
  have heL' : e' ∈ L ++ [q] := List.mem_append_left _ he'
  have hqL2 : q ∈ L ++ [q] := List.mem_append_right _ List.mem_cons_self
  have hfk : ∀ y, va_up f q y k = .inr (6, SO x e w u) := fun y => (va_up_ne _ _ hkq).trans hf
  have hfe1 : ∀ y, va_up f q y e = aI x.1.1.length g := fun y => (va_up_ne _ _ heq).trans hfe
  have hfk' : ∀ z, va_up f q z k2 = .inr (6, SO y e' w' u') := fun y => (va_up_ne _ _ hkq').trans hf'
  have hfe1' : ∀ z, va_up f q z e' = aI y.1.1.length g' := fun y => (va_up_ne _ _ heq').trans hfe'
  refine C.astore_n dX3_melted_13 (by decide) rfl ?_
  refine C.aload_n dX3_melted_14 rfl ?_
  refine C.getf gf_X3_25 dX3_melted_15 hkL (hfk _) rfl ?_
  refine C.ic dX3_melted_18 ?_
  refine C.aload_n dX3_melted_19 rfl ?_
  refine C.ic dX3_melted_20 ?_
  refine C.aload_n dX3_melted_21 rfl ?_
  refine C.getf gf_X3_25 dX3_melted_22 hkL (hfk _) rfl ?_
  refine C.alenI dX3_melted_25 heL (hfe1 _) (by decide) ?_
  refine C.copyI (t := 1) (sp := 0) (dp := 0) (n := x.1.1.length) (g1 := g) (g2 := fun _ => 0) (fun _ => rfl) rfl (fun i _ => fits_int _) (om_wsL_law0_r30 _ (List.mem_of_getElem? (i := 4) rfl)) dX3_melted_26 heL (hfe1 _) hqL2 (va_up_self _ _ _) rfl rfl rfl (by omega) (by omega) (by omega) (by omega) (by decide) (by omega) (Nat.le_of_ble_eq_true rfl) ?_
  rw [up_up]
  refine C.aload_n dX3_melted_29 rfl ?_
  refine C.getf gf_X3_25 dX3_melted_30 hkL' (hfk' _) rfl ?_
  refine C.ic dX3_melted_33 ?_
  refine C.aload_n dX3_melted_34 rfl ?_
  refine C.aload_n dX3_melted_35 rfl ?_
  refine C.getf gf_X3_25 dX3_melted_36 hkL (hfk _) rfl ?_
  refine C.alenI dX3_melted_39 heL (hfe1 _) (by decide) ?_
  refine C.aload_n dX3_melted_40 rfl ?_
  refine C.getf gf_X3_25 dX3_melted_41 hkL' (hfk' _) rfl ?_
  refine C.alenI dX3_melted_44 heL' (hfe1' _) (by decide) ?_
  refine C.copyI (t := 1) (sp := 0) (dp := x.1.1.length) (n := y.1.1.length) (g1 := g') (g2 := cpy g (fun _ => 0) 0 0 x.1.1.length) (fun _ => rfl) rfl (fun i _ => fits_int _) (om_wsL_law0_r30 _ (List.mem_of_getElem? (i := 4) rfl)) dX3_melted_45 heL' (hfe1' _) hqL2 (va_up_self _ _ _) rfl rfl rfl (by omega) (by omega) (by omega) (by omega) (by decide) (by omega) (Nat.le_of_ble_eq_true rfl) ?_
  rw [up_up]
  refine C.aload_n dX3_melted_48 rfl ?_
  refine C.aload_n dX3_melted_49 rfl ?_
  skip
  have hF : ∀ y, Fo L f (L ++ [q]) (va_up f q y) := fun y => Fo.new hqL
  refine C.callV (s_withActs (d := d - 1) (e := q) (xs := x.1.1 ++ y.1.1) (by omega) (hs.keep (hF _).p) hx ⟨hqL2, hq2, _, (va_up_self _ _ _).trans (by rw [List.length_append]), fun j v hj => ?_⟩) cw_X3_withActs ml_X3_39 im_X3_withActs sl_X3_withActs dX3_melted_50 hkL (hfk _) rfl rfl (by omega) (by omega) (by omega) (Nat.le_of_ble_eq_true rfl) rfl (fun r L9 f9 h9 => ?_)
  · have hjl := (List.getElem?_eq_some_iff.mp hj).1
    rw [List.length_append] at hjl
    show va_cpy g' (va_cpy g (fun _ => 0) 0 0 x.1.1.length) 0 x.1.1.length y.1.1.length j = v
    unfold va_cpy
    by_cases hjx : j < x.1.1.length
    · rw [List.getElem?_append_left hjx] at hj
      rw [if_neg (by omega), if_pos (by omega), Nat.zero_add, Nat.sub_zero]
      exact hg j v hj
    · rw [List.getElem?_append_right (by omega)] at hj
      rw [if_pos (by omega), Nat.zero_add]
      exact hg' _ v hj
  obtain ⟨k9, rfl, hS9, hF9⟩ := h9
  exact C.aret rfl (Or.inl ⟨_, rfl⟩) dX3_melted_53 (by omega) (by omega) ⟨k9, rfl, hS9, (hF _).tr hF9⟩
end SEN3
