set_option maxRecDepth 20000 in
set_option maxHeartbeats 2000000 in
theorem c_alike : ∀ (D : Nat) {d dp q1 q2 : Nat} {t1 t2 : TT} {L : List Nat} {f : Nat → AC}, D ≤ d → dp + D ≤ 41 → isT t1 → isT t2 → (cd t1 0).length ≤ 900 → (cd t2 0).length ≤ 900 → CAt L f D q1 t1 → CAt L f D q2 t2 → AM yX0_alike cX0_alike 4 (some .boolean) d 0 0 [.ref q1, .ref q2, .int (iI dp)] L f (SP (some (.int (iI (b2i (decide (cd t1 0 = cd t2 0)))))) L f) := by
  intro D
  induction D with
  | zero => intro d dp q1 q2 t1 t2 L f _ _ _ _ _ _ h; exact h.elim
  | succ D ih =>
    intro d dp q1 q2 t1 t2 L f hd hdp ht1 ht2 hl1 hl2 h1 h2
    obtain ⟨⟨-, hq1⟩, p1, g1, hf1, ⟨-, hp1⟩, hfp1, hel1⟩ := h1
    obtain ⟨⟨-, hq2⟩, p2, g2, hf2, ⟨-, hp2⟩, hfp2, hel2⟩ := h2
    have hal := cd_alike ht1 ht2 hl1 hl2
    have k1 := knd_rng ht1
    have k2 := knd_rng ht2
    obtain ⟨ex, tx⟩ := cd_pcs ht1
    obtain ⟨ey, ty⟩ := cd_pcs ht2
    have px := len_pieces tx
    have py := len_pieces ty
    have lx : (cd t1 0).length = ((pcs t1).flatMap (fun x => cd x 0)).length + 1 := by rw [ex, List.length_cons]
    have ly : (cd t2 0).length = ((pcs t2).flatMap (fun x => cd x 0)).length + 1 := by rw [ey, List.length_cons]
    have n1 : -1 ≤ num t1 ∧ num t1 ≤ 5 := by
      rcases isT_small ht1 with ⟨n, h5, rfl⟩ | ⟨c, h5, rfl⟩ | ⟨a, b, h5, h6, rfl⟩ | ⟨a, b, h5, h6, rfl⟩ <;> simp only [num] <;> omega
    have n2 : -1 ≤ num t2 ∧ num t2 ≤ 5 := by
      rcases isT_small ht2 with ⟨n, h5, rfl⟩ | ⟨c, h5, rfl⟩ | ⟨a, b, h5, h6, rfl⟩ | ⟨a, b, h5, h6, rfl⟩ <;> simp only [num] <;> omega
    generalize hA : decide (cd t1 0 = cd t2 0) = A
    have hAf : ¬ (knd t1 = knd t2 ∧ num t1 = num t2 ∧ (pcs t1).length = (pcs t2).length) → A = false := fun h => by
      rw [← hA, decide_eq_false_iff_not]
      exact fun e => h (hal.mp e).1
    refine AM.of (by decide +kernel) (by simp [Value.category]) (Nat.le_of_ble_eq_true rfl) false (fun h => by cases h) (fun X C => ?_)
    have no : A = false → X 0 0 L f 63 [some (.ref q1), some (.ref q2), some (.int (iI dp)), none] [] := by
      intro hf
      refine C.ic dX0_alike_63 ?_
      refine C.retI rfl (by first | rfl | (exact (iI_bool (by first | exact Or.inl rfl | exact Or.inr rfl | assumption)).1)) dX0_alike_64 (Nat.le_refl _) (Nat.le_refl _) ⟨?_, rfl, rfl⟩
      rw [hf]
      rfl
    have loop : knd t1 = knd t2 → num t1 = num t2 → (pcs t1).length = (pcs t2).length → ∀ (m i : Nat), i + m = (pcs t1).length → (∀ j, j < i → ((pcs t1).map (fun z => cd z 0))[j]? = ((pcs t2).map (fun z => cd z 0))[j]?) → X 0 0 L f 67 [some (.ref q1), some (.ref q2), some (.int (iI dp)), some (.int (iI i))] [] := by
      intro e1 e2 e3 m
      induction m with
      | zero =>
        intro i hi hj
        have hAt : A = true := by
          rw [← hA, decide_eq_true_eq]
          refine hal.mpr ⟨⟨e1, e2, e3⟩, List.ext_getElem? (fun j => ?_)⟩
          by_cases hjl : j < (pcs t1).length
          · exact hj j (by omega)
          · rw [List.getElem?_eq_none (by rw [List.length_map]; omega), List.getElem?_eq_none (by rw [List.length_map]; omega)]
        refine C.iload_n dX0_alike_67 rfl ?_
        refine C.aload_n dX0_alike_68 rfl ?_
        refine C.getf gf_X0_18 dX0_alike_69 hq1 hf1 rfl ?_
        refine C.alenI dX0_alike_72 hp1 hfp1 (by decide) ?_
        refine C.icmp_geI (tgt := 105) dX0_alike_73 (by decide) (by omega) (by omega) (fun hc73 => ?_) (fun hc73 => absurd hc73 (by omega))
        refine C.ic dX0_alike_105 ?_
        refine C.retI rfl (by first | rfl | (exact (iI_bool (by first | exact Or.inl rfl | exact Or.inr rfl | assumption)).1)) dX0_alike_106 (Nat.le_refl _) (Nat.le_refl _) ⟨?_, rfl, rfl⟩
        rw [hAt]
        rfl
      | succ m ihm =>
        intro i hi hj
        have hx1 : (pcs t1)[i]? = some ((pcs t1)[i]'(by omega)) := List.getElem?_eq_getElem _
        have hx2 : (pcs t2)[i]? = some ((pcs t2)[i]'(by omega)) := List.getElem?_eq_getElem _
        generalize (pcs t1)[i]'(by omega) = x1 at hx1
        generalize (pcs t2)[i]'(by omega) = x2 at hx2
        obtain ⟨r1, hg1, hC1⟩ := hel1 i x1 hx1
        obtain ⟨r2, hg2, hC2⟩ := hel2 i x2 hx2
        have m1 := List.mem_of_getElem? hx1
        have m2 := List.mem_of_getElem? hx2
        have w1 := mem_flat_len m1
        have w2 := mem_flat_len m2
        have hM := ih (d := d - 1) (dp := dp + 1) (q1 := r1) (q2 := r2) (t1 := x1) (t2 := x2) (L := L) (f := f) (by omega) (by omega) (tx x1 m1) (ty x2 m2) (by omega) (by omega) hC1 hC2
        by_cases heq : cd x1 0 = cd x2 0
        · rw [decide_eq_true heq] at hM
          have nx := ihm (i + 1) (by omega) (fun j hji => by
            by_cases hji2 : j = i
            · subst hji2
              rw [List.getElem?_map, List.getElem?_map, hx1, hx2]
              show some (cd x1 0) = some (cd x2 0)
              rw [heq]
            · exact hj j (by omega))
          refine C.iload_n dX0_alike_67 rfl ?_
          refine C.aload_n dX0_alike_68 rfl ?_
          refine C.getf gf_X0_18 dX0_alike_69 hq1 hf1 rfl ?_
          refine C.alenI dX0_alike_72 hp1 hfp1 (by decide) ?_
          refine C.icmp_geI (tgt := 105) dX0_alike_73 (by decide) (by omega) (by omega) (fun hc73 => absurd hc73 (by omega)) (fun hc73 => ?_)
          refine C.aload_n dX0_alike_76 rfl ?_
          refine C.getf gf_X0_18 dX0_alike_77 hq1 hf1 rfl ?_
          refine C.iload_n dX0_alike_80 rfl ?_
          refine C.aald4 dX0_alike_81 hp1 hfp1 (iI_in (by omega) (by omega) (by omega)) ?_
          rw [iI_clamp (by omega), Int.toNat_natCast, hg1]
          refine C.aload_n dX0_alike_82 rfl ?_
          refine C.getf gf_X0_18 dX0_alike_83 hq2 hf2 rfl ?_
          refine C.iload_n dX0_alike_86 rfl ?_
          refine C.aald4 dX0_alike_87 hp2 hfp2 (iI_in (by omega) (by omega) (by omega)) ?_
          rw [iI_clamp (by omega), Int.toNat_natCast, hg2]
          refine C.iload_n dX0_alike_88 rfl ?_
          refine C.ic dX0_alike_89 ?_
          refine C.iaddI dX0_alike_90 ?_
          refine C.callS (hM) cw_X0_alike ml_X0_64 sm_X0_alike dX0_alike_91 rfl (by omega) (Nat.le_refl _) (Nat.le_refl _) (Nat.le_of_ble_eq_true rfl) rfl (fun r L9 f9 h9 => ?_)
          obtain ⟨rfl, hL9, hf9⟩ := h9
          rw [hL9, hf9]
          clear hL9 hf9
          refine C.if_neI (tgt := 99) dX0_alike_94 (by decide) (by decide) (fun hc94 => ?_) (fun hc94 => absurd hc94 (by decide))
          refine C.iincI dX0_alike_99 rfl (by decide) rfl ?_
          refine C.goto (tgt := 67) dX0_alike_102 (by decide) ?_
          exact nx
        · rw [decide_eq_false heq] at hM
          have hAf2 : A = false := by
            rw [← hA, decide_eq_false_iff_not]
            intro e
            have h3 := (hal.mp e).2
            have h4 := congrArg (fun l => l[i]?) h3
            simp only [List.getElem?_map, hx1, hx2, Option.map_some] at h4
            exact heq (Option.some.inj h4)
          refine C.iload_n dX0_alike_67 rfl ?_
          refine C.aload_n dX0_alike_68 rfl ?_
          refine C.getf gf_X0_18 dX0_alike_69 hq1 hf1 rfl ?_
          refine C.alenI dX0_alike_72 hp1 hfp1 (by decide) ?_
          refine C.icmp_geI (tgt := 105) dX0_alike_73 (by decide) (by omega) (by omega) (fun hc73 => absurd hc73 (by omega)) (fun hc73 => ?_)
          refine C.aload_n dX0_alike_76 rfl ?_
          refine C.getf gf_X0_18 dX0_alike_77 hq1 hf1 rfl ?_
          refine C.iload_n dX0_alike_80 rfl ?_
          refine C.aald4 dX0_alike_81 hp1 hfp1 (iI_in (by omega) (by omega) (by omega)) ?_
          rw [iI_clamp (by omega), Int.toNat_natCast, hg1]
          refine C.aload_n dX0_alike_82 rfl ?_
          refine C.getf gf_X0_18 dX0_alike_83 hq2 hf2 rfl ?_
          refine C.iload_n dX0_alike_86 rfl ?_
          refine C.aald4 dX0_alike_87 hp2 hfp2 (iI_in (by omega) (by omega) (by omega)) ?_
          rw [iI_clamp (by omega), Int.toNat_natCast, hg2]
          refine C.iload_n dX0_alike_88 rfl ?_
          refine C.ic dX0_alike_89 ?_
          refine C.iaddI dX0_alike_90 ?_
          refine C.callS (hM) cw_X0_alike ml_X0_64 sm_X0_alike dX0_alike_91 rfl (by omega) (Nat.le_refl _) (Nat.le_refl _) (Nat.le_of_ble_eq_true rfl) rfl (fun r L9 f9 h9 => ?_)
          obtain ⟨rfl, hL9, hf9⟩ := h9
          rw [hL9, hf9]
          clear hL9 hf9
          refine C.if_neI (tgt := 99) dX0_alike_94 (by decide) (by decide) (fun hc94 => absurd hc94 (by decide)) (fun hc94 => ?_)
          refine C.ic dX0_alike_97 ?_
          refine C.retI rfl (by first | rfl | (exact (iI_bool (by first | exact Or.inl rfl | exact Or.inr rfl | assumption)).1)) dX0_alike_98 (Nat.le_refl _) (Nat.le_refl _) ⟨?_, rfl, rfl⟩
          rw [hAf2]
          rfl
    refine C.aload_n dX0_alike_0 rfl ?_
    refine C.ifnull dX0_alike_1 ?_
    refine C.aload_n dX0_alike_4 rfl ?_
    refine C.ifnonnull (tgt := 22) dX0_alike_5 (by decide) ?_
    refine C.aload_n dX0_alike_22 rfl ?_
    refine C.getf gf_X0_11 dX0_alike_23 hq1 hf1 rfl ?_
    refine C.aload_n dX0_alike_26 rfl ?_
    refine C.getf gf_X0_11 dX0_alike_27 hq2 hf2 rfl ?_
    refine C.icmp_neI (tgt := 63) dX0_alike_30 (by decide) (by omega) (by omega) (fun hc30 => ?_) (fun hc30 => ?_)
    · exact no (hAf (fun q => by omega))
    · refine C.aload_n dX0_alike_33 rfl ?_
      refine C.getf gf_X0_15 dX0_alike_34 hq1 hf1 rfl ?_
      refine C.aload_n dX0_alike_37 rfl ?_
      refine C.getf gf_X0_15 dX0_alike_38 hq2 hf2 rfl ?_
      refine C.icmp_neI (tgt := 63) dX0_alike_41 (by decide) (by omega) (by omega) (fun hc41 => ?_) (fun hc41 => ?_)
      · exact no (hAf (fun q => by omega))
      · refine C.aload_n dX0_alike_44 rfl ?_
        refine C.getf gf_X0_18 dX0_alike_45 hq1 hf1 rfl ?_
        refine C.alenI dX0_alike_48 hp1 hfp1 (by decide) ?_
        refine C.aload_n dX0_alike_49 rfl ?_
        refine C.getf gf_X0_18 dX0_alike_50 hq2 hf2 rfl ?_
        refine C.alenI dX0_alike_53 hp2 hfp2 (by decide) ?_
        refine C.icmp_neI (tgt := 63) dX0_alike_54 (by decide) (by omega) (by omega) (fun hc54 => ?_) (fun hc54 => ?_)
        · exact no (hAf (fun q => by omega))
        · refine C.iload_n dX0_alike_57 rfl ?_
          refine C.bi dX0_alike_58 (by decide) ?_
          refine C.icmp_leI (tgt := 65) dX0_alike_60 (by decide) (by omega) (by omega) (fun hc60 => ?_) (fun hc60 => absurd hc60 (by omega))
          refine C.ic dX0_alike_65 ?_
          refine C.istore_n dX0_alike_66 (by decide) rfl ?_
          exact loop (by omega) (by omega) (by omega) (pcs t1).length 0 (by omega) (fun j hj => absurd hj (by omega))
