/-- all but what writing changes is as it was -/
def Gw (sf sf' : SF) : Prop := ∀ j, j ≠ 18 → j ≠ 29 → j ≠ 30 → j ≠ 31 → sf' j = sf j
def Go (sa sa' : SA) : Prop := ∀ a, a ≠ 34 → sa' a = sa a
theorem Gw.rf {sf : SF} : Gw sf sf := fun _ _ _ _ _ => rfl
theorem Gw.tr {s1 s2 s3 : SF} (h1 : Gw s1 s2) (h2 : Gw s2 s3) : Gw s1 s3 := fun j a b c d => (h2 j a b c d).trans (h1 j a b c d)
theorem Go.rf {sa : SA} : Go sa sa := fun _ _ => rfl
theorem Go.tr {s1 s2 s3 : SA} (h1 : Go s1 s2) (h2 : Go s2 s3) : Go s1 s3 := fun a h => (h2 a h).trans (h1 a h)
theorem WT.Gw {s0 sf : SF} {sa0 sa : SA} {n wc : Nat} {T : List Int} (h : WT s0 sa0 n T wc sf sa) : Gw s0 sf := by
  obtain ⟨⟨a, hW⟩, hs⟩ := h
  exact hW.1
theorem WT.Go {s0 sf : SF} {sa0 sa : SA} {n wc : Nat} {T : List Int} (h : WT s0 sa0 n T wc sf sa) : Go sa0 sa := fun a ha => by rw [h.2, wrS_ne ha]
theorem SenAt.Go {sa sa' : SA} {s : Nat} {x : Sen} (h : SenAt sa s x) (hg : Go sa sa') : SenAt sa' s x :=
  h.keep (fun a ha => by rw [hg a (by omega)]) (fun k _ => by rw [hg 22 (by decide)]) (fun c _ => by rw [hg 27 (by decide)]) (fun j _ => by rw [hg 28 (by decide)])
theorem m_wordsOf {d s : Nat} {x : Sen} {sf : SF} {sa : SA} (hd : 421 ≤ d) (hs : s < 100) (hx : SenAt sa s x) (hok : SOk x) (hr : (snT false x).length + 4 ≤ 9000) : MM yX9_wordsOf cX9_wordsOf 2 (some .int) d [.int (iI s)] sf sa (fun r sf' sa' => r = some (.int (iI (snW x))) ∧ Gw sf sf' ∧ Go sa sa') := by
  have hM := m_putSentence (d := d - 1) (n := 0) (sf := va_up sf 29 0) (by omega) hs rfl hx hok (by simp; omega)
  refine MM.of2 (by decide +kernel) rfl (Nat.le_of_ble_eq_true rfl) (fun L g hL X C => ?_)
  refine C.aload_n dX9_wordsOf_0 rfl ?_
  refine C.ic dX9_wordsOf_1 ?_
  refine C.mput hL pf_X9_235 dX9_wordsOf_2 (by decide) rfl ?_
  refine C.aload_n dX9_wordsOf_5 rfl ?_
  refine C.iload_n dX9_wordsOf_6 rfl ?_
  refine C.mcall hL (hM) cw_X9_putSentence ml_X9_277 im_X9_putSentence sl_X9_putSentence dX9_wordsOf_7 rfl rfl (by omega) (Nat.le_refl _) (Nat.le_refl _) (Nat.le_of_ble_eq_true rfl) rfl (fun r7 sf7 sa7 hR7 => ?_)
  obtain ⟨rfl, hs1⟩ := hR7
  obtain ⟨a, hW⟩ := id hs1.1
  refine C.aload_n dX9_wordsOf_10 rfl ?_
  refine C.mget hL gf_X9_245 dX9_wordsOf_11 rfl ?_
  refine C.topI (b := (snW x : Int)) hW.2.2.2.1 ?_
  refine C.retI rfl (by first | rfl | (exact (iI_bool (by first | exact Or.inl rfl | exact Or.inr rfl | assumption)).1)) dX9_wordsOf_14 (Nat.le_refl _) (Nat.le_refl _) ⟨_, _, ?_, rfl, rfl⟩
  refine ⟨rfl, fun j h1 h2 h3 h4 => ?_, hs1.Go⟩
  rw [hs1.Gw j h1 h2 h3 h4, va_up_ne _ _ h2]
theorem wd_len (t : TT) (ht : isT t) (m : Nat) : wd t + 1 ≤ 3 * (cd t m).length := by
  revert m
  refine isT_ind (P := fun t => ∀ m, wd t + 1 ≤ 3 * (cd t m).length) ?_ ?_ ?_ ?_ t ht
  · intro n _ m; simp [cd, wd]
  · intro c _ ih m
    have := ih 0
    simp only [cd, wd, List.length_cons]; omega
  · intro a b _ _ ha hb m
    have h1 := ha 1
    have h2 := hb 1
    simp only [cd, wd, List.length_append]; omega
  · intro a b _ _ ha hb m
    have h1 := ha 2
    have h2 := hb 2
    simp only [cd, wd, List.length_append]; omega
theorem nt_len (t : TT) (ht : isT t) : nt t ≤ (cd t 0).length := by
  rw [← cd_10 t ht 0]
  exact List.count_le_length
theorem RowAt.wd {sa : SA} {c : Nat} {o : Option TT} (h : RowAt sa c o) : wdO o ≤ 1200 ∧ ntO o ≤ 400 ∧ (0 < sa 27 c ↔ isS o = true) := by
  cases o with
  | none =>
    have : sa 27 c = 0 := h
    simp [wdO, ntO, isS]
    omega
  | some t =>
    obtain ⟨q1, q2, q3, q4⟩ := h
    have h1 := wd_len t q3 0
    have h2 := nt_len t q3
    have h3 := cd_len t q3 0
    simp only [wdO, ntO, isS]
    refine ⟨by omega, by omega, ?_⟩
    simp
    omega
/-- a sentence's cost -/
def csS (x : Sen) : Nat := snW x + (if x.1.2.2.2 = 0 then 0 else 3) + 2 * (ntO x.2.2.1 + ntO x.2.2.2) + (if isS x.2.2.2 then 4 else 0) + 2 * (snW x - 10) + 5
theorem snW_le {sa : SA} {s : Nat} {x : Sen} (h : SenAt sa s x) (hok : SOk x) : snW x ≤ 3000 := by
  have h1 := h.2.2.1.wd
  have h2 := h.2.2.2.wd
  have h3 := hok.1.1.1
  unfold snW bdW
  have : (if x.1.2.2.1 = 1 then 2 else 1) ≤ 2 := by split <;> omega
  have : (if x.1.2.2.2 = 0 then 1 else if x.1.2.1 < 3 then 4 else 2) ≤ 4 := by split <;> (try split) <;> omega
  have : (if x.2.1 < 0 then 0 else 2) ≤ 2 := by split <;> omega
  omega
theorem m_costOf {d s : Nat} {x : Sen} {sf : SF} {sa : SA} (hd : 422 ≤ d) (hs : s < 100) (hx : SenAt sa s x) (hok : SOk x) (hr : (snT false x).length + 4 ≤ 9000) : MM yX9_costOf cX9_costOf 3 (some .int) d [.int (iI s)] sf sa (fun r sf' sa' => r = some (.int (iI (csS x))) ∧ Gw sf sf' ∧ Go sa sa') := by
  have hM := m_wordsOf (d := d - 1) (sf := sf) (by omega) hs hx hok hr
  have hwl := snW_le hx hok
  have hnw := hx.2.2.1.wd
  have hnu := hx.2.2.2.wd
  have hz := hok.1.2.2.2.1
  refine MM.of2 (by decide +kernel) rfl (Nat.le_of_ble_eq_true rfl) (fun L g hL X C => ?_)
  refine C.aload_n dX9_costOf_0 rfl ?_
  refine C.iload_n dX9_costOf_1 rfl ?_
  refine C.mcall hL (hM) cw_X9_wordsOf ml_X9_280 im_X9_wordsOf sl_X9_wordsOf dX9_costOf_2 rfl rfl (by omega) (Nat.le_refl _) (Nat.le_refl _) (Nat.le_of_ble_eq_true rfl) rfl (fun r2 sf2 sa2 hR2 => ?_)
  obtain ⟨rfl, hg1, hg2⟩ := hR2
  have hx2 := hx.Go hg2
  have e26 := hx2.1.2.2.2.2
  have hN := m_notsOf (d := d - 1) (sf := sf2) (sa := sa2) hs hx2.2.2.1 hx2.2.2.2
  have e27 := hx2.2.2.2.wd.2.2
  have l27 := hx2.2.2.2.len
  refine C.istore_n dX9_costOf_5 (by decide) rfl ?_
  refine C.iload_n dX9_costOf_6 rfl ?_
  refine C.aload_n dX9_costOf_7 rfl ?_
  refine C.mget hL gf_X9_25 dX9_costOf_8 rfl ?_
  refine C.iload_n dX9_costOf_11 rfl ?_
  refine C.maldzk hL dX9_costOf_12 (by decide) rfl (by decide) rfl (by omega) ?_
  refine C.topI (b := x.1.2.2.2) e26 ?_
  refine C.if_eqI (tgt := 20) dX9_costOf_13 (by decide) (by omega) (fun hc13 => ?_) (fun hc13 => ?_)
  · refine C.ic dX9_costOf_20 ?_
    refine C.iaddI dX9_costOf_21 ?_
    refine C.ic dX9_costOf_22 ?_
    refine C.aload_n dX9_costOf_23 rfl ?_
    refine C.iload_n dX9_costOf_24 rfl ?_
    refine C.mcall hL (hN) cw_X9_notsOf ml_X9_283 im_X9_notsOf sl_X9_notsOf dX9_costOf_25 rfl rfl (by omega) (Nat.le_refl _) (Nat.le_refl _) (Nat.le_of_ble_eq_true rfl) rfl (fun r25 sf25 sa25 hR25 => ?_)
    obtain ⟨rfl, hs, ha⟩ := hR25
    rw [hs, ha]
    clear hs ha
    refine C.imulI dX9_costOf_28 ?_
    refine C.iaddI dX9_costOf_29 ?_
    refine C.aload_n dX9_costOf_30 rfl ?_
    refine C.mget hL gf_X9_29 dX9_costOf_31 rfl ?_
    refine C.ic dX9_costOf_34 ?_
    refine C.iload_n dX9_costOf_35 rfl ?_
    refine C.imulI dX9_costOf_36 ?_
    refine C.ic dX9_costOf_37 ?_
    refine C.iaddI dX9_costOf_38 ?_
    refine C.maldk hL (k := 2 * s + 1) dX9_costOf_39 (by decide) rfl (by decide) (by omega) (by omega) ?_
    refine C.if_leI (tgt := 47) dX9_costOf_40 (by decide) (by omega) (fun hc40 => ?_) (fun hc40 => ?_)
    · refine C.ic dX9_costOf_47 ?_
      refine C.iaddI dX9_costOf_48 ?_
      refine C.iload_n dX9_costOf_49 rfl ?_
      refine C.bi dX9_costOf_50 (by decide) ?_
      refine C.icmp_leI (tgt := 64) dX9_costOf_52 (by decide) (by omega) (by omega) (fun hc52 => ?_) (fun hc52 => ?_)
      · refine C.ic dX9_costOf_64 ?_
        refine C.iaddI dX9_costOf_65 ?_
        refine C.ic dX9_costOf_66 ?_
        refine C.iaddI dX9_costOf_67 ?_
        refine C.retI rfl (by first | rfl | (exact (iI_bool (by first | exact Or.inl rfl | exact Or.inr rfl | assumption)).1)) dX9_costOf_68 (Nat.le_refl _) (Nat.le_refl _) ⟨_, _, ?_, rfl, rfl⟩
        refine ⟨?_, hg1, hg2⟩
        congr 3
        unfold csS
        have q1 : (if isS x.2.2.2 = true then 4 else 0 : Nat) = if 0 < sa2 27 (2 * s + 1) then 4 else 0 := by simp only [e27]
        rw [q1]
        first | rw [if_pos hc13] | rw [if_neg hc13]
        first | rw [if_pos (by omega : 0 < sa2 27 (2 * s + 1))] | rw [if_neg (by omega : ¬ 0 < sa2 27 (2 * s + 1))]
        omega
      · refine C.ic dX9_costOf_55 ?_
        refine C.iload_n dX9_costOf_56 rfl ?_
        refine C.bi dX9_costOf_57 (by decide) ?_
        refine C.isubI dX9_costOf_59 ?_
        refine C.imulI dX9_costOf_60 ?_
        refine C.goto (tgt := 65) dX9_costOf_61 (by decide) ?_
        refine C.iaddI dX9_costOf_65 ?_
        refine C.ic dX9_costOf_66 ?_
        refine C.iaddI dX9_costOf_67 ?_
        refine C.retI rfl (by first | rfl | (exact (iI_bool (by first | exact Or.inl rfl | exact Or.inr rfl | assumption)).1)) dX9_costOf_68 (Nat.le_refl _) (Nat.le_refl _) ⟨_, _, ?_, rfl, rfl⟩
        refine ⟨?_, hg1, hg2⟩
        congr 3
        unfold csS
        have q1 : (if isS x.2.2.2 = true then 4 else 0 : Nat) = if 0 < sa2 27 (2 * s + 1) then 4 else 0 := by simp only [e27]
        rw [q1]
        first | rw [if_pos hc13] | rw [if_neg hc13]
        first | rw [if_pos (by omega : 0 < sa2 27 (2 * s + 1))] | rw [if_neg (by omega : ¬ 0 < sa2 27 (2 * s + 1))]
        omega
    · refine C.ic dX9_costOf_43 ?_
      refine C.goto (tgt := 48) dX9_costOf_44 (by decide) ?_
      refine C.iaddI dX9_costOf_48 ?_
      refine C.iload_n dX9_costOf_49 rfl ?_
      refine C.bi dX9_costOf_50 (by decide) ?_
      refine C.icmp_leI (tgt := 64) dX9_costOf_52 (by decide) (by omega) (by omega) (fun hc52 => ?_) (fun hc52 => ?_)
      · refine C.ic dX9_costOf_64 ?_
        refine C.iaddI dX9_costOf_65 ?_
        refine C.ic dX9_costOf_66 ?_
        refine C.iaddI dX9_costOf_67 ?_
        refine C.retI rfl (by first | rfl | (exact (iI_bool (by first | exact Or.inl rfl | exact Or.inr rfl | assumption)).1)) dX9_costOf_68 (Nat.le_refl _) (Nat.le_refl _) ⟨_, _, ?_, rfl, rfl⟩
        refine ⟨?_, hg1, hg2⟩
        congr 3
        unfold csS
        have q1 : (if isS x.2.2.2 = true then 4 else 0 : Nat) = if 0 < sa2 27 (2 * s + 1) then 4 else 0 := by simp only [e27]
        rw [q1]
        first | rw [if_pos hc13] | rw [if_neg hc13]
        first | rw [if_pos (by omega : 0 < sa2 27 (2 * s + 1))] | rw [if_neg (by omega : ¬ 0 < sa2 27 (2 * s + 1))]
        omega
      · refine C.ic dX9_costOf_55 ?_
        refine C.iload_n dX9_costOf_56 rfl ?_
        refine C.bi dX9_costOf_57 (by decide) ?_
        refine C.isubI dX9_costOf_59 ?_
        refine C.imulI dX9_costOf_60 ?_
        refine C.goto (tgt := 65) dX9_costOf_61 (by decide) ?_
        refine C.iaddI dX9_costOf_65 ?_
        refine C.ic dX9_costOf_66 ?_
        refine C.iaddI dX9_costOf_67 ?_
        refine C.retI rfl (by first | rfl | (exact (iI_bool (by first | exact Or.inl rfl | exact Or.inr rfl | assumption)).1)) dX9_costOf_68 (Nat.le_refl _) (Nat.le_refl _) ⟨_, _, ?_, rfl, rfl⟩
        refine ⟨?_, hg1, hg2⟩
        congr 3
        unfold csS
        have q1 : (if isS x.2.2.2 = true then 4 else 0 : Nat) = if 0 < sa2 27 (2 * s + 1) then 4 else 0 := by simp only [e27]
        rw [q1]
        first | rw [if_pos hc13] | rw [if_neg hc13]
        first | rw [if_pos (by omega : 0 < sa2 27 (2 * s + 1))] | rw [if_neg (by omega : ¬ 0 < sa2 27 (2 * s + 1))]
        omega
  · refine C.ic dX9_costOf_16 ?_
    refine C.goto (tgt := 21) dX9_costOf_17 (by decide) ?_
    refine C.iaddI dX9_costOf_21 ?_
    refine C.ic dX9_costOf_22 ?_
    refine C.aload_n dX9_costOf_23 rfl ?_
    refine C.iload_n dX9_costOf_24 rfl ?_
    refine C.mcall hL (hN) cw_X9_notsOf ml_X9_283 im_X9_notsOf sl_X9_notsOf dX9_costOf_25 rfl rfl (by omega) (Nat.le_refl _) (Nat.le_refl _) (Nat.le_of_ble_eq_true rfl) rfl (fun r25 sf25 sa25 hR25 => ?_)
    obtain ⟨rfl, hs, ha⟩ := hR25
    rw [hs, ha]
    clear hs ha
    refine C.imulI dX9_costOf_28 ?_
    refine C.iaddI dX9_costOf_29 ?_
    refine C.aload_n dX9_costOf_30 rfl ?_
    refine C.mget hL gf_X9_29 dX9_costOf_31 rfl ?_
    refine C.ic dX9_costOf_34 ?_
    refine C.iload_n dX9_costOf_35 rfl ?_
    refine C.imulI dX9_costOf_36 ?_
    refine C.ic dX9_costOf_37 ?_
    refine C.iaddI dX9_costOf_38 ?_
    refine C.maldk hL (k := 2 * s + 1) dX9_costOf_39 (by decide) rfl (by decide) (by omega) (by omega) ?_
    refine C.if_leI (tgt := 47) dX9_costOf_40 (by decide) (by omega) (fun hc40 => ?_) (fun hc40 => ?_)
    · refine C.ic dX9_costOf_47 ?_
      refine C.iaddI dX9_costOf_48 ?_
      refine C.iload_n dX9_costOf_49 rfl ?_
      refine C.bi dX9_costOf_50 (by decide) ?_
      refine C.icmp_leI (tgt := 64) dX9_costOf_52 (by decide) (by omega) (by omega) (fun hc52 => ?_) (fun hc52 => ?_)
      · refine C.ic dX9_costOf_64 ?_
        refine C.iaddI dX9_costOf_65 ?_
        refine C.ic dX9_costOf_66 ?_
        refine C.iaddI dX9_costOf_67 ?_
        refine C.retI rfl (by first | rfl | (exact (iI_bool (by first | exact Or.inl rfl | exact Or.inr rfl | assumption)).1)) dX9_costOf_68 (Nat.le_refl _) (Nat.le_refl _) ⟨_, _, ?_, rfl, rfl⟩
        refine ⟨?_, hg1, hg2⟩
        congr 3
        unfold csS
        have q1 : (if isS x.2.2.2 = true then 4 else 0 : Nat) = if 0 < sa2 27 (2 * s + 1) then 4 else 0 := by simp only [e27]
        rw [q1]
        first | rw [if_pos hc13] | rw [if_neg hc13]
        first | rw [if_pos (by omega : 0 < sa2 27 (2 * s + 1))] | rw [if_neg (by omega : ¬ 0 < sa2 27 (2 * s + 1))]
        omega
      · refine C.ic dX9_costOf_55 ?_
        refine C.iload_n dX9_costOf_56 rfl ?_
        refine C.bi dX9_costOf_57 (by decide) ?_
        refine C.isubI dX9_costOf_59 ?_
        refine C.imulI dX9_costOf_60 ?_
        refine C.goto (tgt := 65) dX9_costOf_61 (by decide) ?_
        refine C.iaddI dX9_costOf_65 ?_
        refine C.ic dX9_costOf_66 ?_
        refine C.iaddI dX9_costOf_67 ?_
        refine C.retI rfl (by first | rfl | (exact (iI_bool (by first | exact Or.inl rfl | exact Or.inr rfl | assumption)).1)) dX9_costOf_68 (Nat.le_refl _) (Nat.le_refl _) ⟨_, _, ?_, rfl, rfl⟩
        refine ⟨?_, hg1, hg2⟩
        congr 3
        unfold csS
        have q1 : (if isS x.2.2.2 = true then 4 else 0 : Nat) = if 0 < sa2 27 (2 * s + 1) then 4 else 0 := by simp only [e27]
        rw [q1]
        first | rw [if_pos hc13] | rw [if_neg hc13]
        first | rw [if_pos (by omega : 0 < sa2 27 (2 * s + 1))] | rw [if_neg (by omega : ¬ 0 < sa2 27 (2 * s + 1))]
        omega
    · refine C.ic dX9_costOf_43 ?_
      refine C.goto (tgt := 48) dX9_costOf_44 (by decide) ?_
      refine C.iaddI dX9_costOf_48 ?_
      refine C.iload_n dX9_costOf_49 rfl ?_
      refine C.bi dX9_costOf_50 (by decide) ?_
      refine C.icmp_leI (tgt := 64) dX9_costOf_52 (by decide) (by omega) (by omega) (fun hc52 => ?_) (fun hc52 => ?_)
      · refine C.ic dX9_costOf_64 ?_
        refine C.iaddI dX9_costOf_65 ?_
        refine C.ic dX9_costOf_66 ?_
        refine C.iaddI dX9_costOf_67 ?_
        refine C.retI rfl (by first | rfl | (exact (iI_bool (by first | exact Or.inl rfl | exact Or.inr rfl | assumption)).1)) dX9_costOf_68 (Nat.le_refl _) (Nat.le_refl _) ⟨_, _, ?_, rfl, rfl⟩
        refine ⟨?_, hg1, hg2⟩
        congr 3
        unfold csS
        have q1 : (if isS x.2.2.2 = true then 4 else 0 : Nat) = if 0 < sa2 27 (2 * s + 1) then 4 else 0 := by simp only [e27]
        rw [q1]
        first | rw [if_pos hc13] | rw [if_neg hc13]
        first | rw [if_pos (by omega : 0 < sa2 27 (2 * s + 1))] | rw [if_neg (by omega : ¬ 0 < sa2 27 (2 * s + 1))]
        omega
      · refine C.ic dX9_costOf_55 ?_
        refine C.iload_n dX9_costOf_56 rfl ?_
        refine C.bi dX9_costOf_57 (by decide) ?_
        refine C.isubI dX9_costOf_59 ?_
        refine C.imulI dX9_costOf_60 ?_
        refine C.goto (tgt := 65) dX9_costOf_61 (by decide) ?_
        refine C.iaddI dX9_costOf_65 ?_
        refine C.ic dX9_costOf_66 ?_
        refine C.iaddI dX9_costOf_67 ?_
        refine C.retI rfl (by first | rfl | (exact (iI_bool (by first | exact Or.inl rfl | exact Or.inr rfl | assumption)).1)) dX9_costOf_68 (Nat.le_refl _) (Nat.le_refl _) ⟨_, _, ?_, rfl, rfl⟩
        refine ⟨?_, hg1, hg2⟩
        congr 3
        unfold csS
        have q1 : (if isS x.2.2.2 = true then 4 else 0 : Nat) = if 0 < sa2 27 (2 * s + 1) then 4 else 0 := by simp only [e27]
        rw [q1]
        first | rw [if_pos hc13] | rw [if_neg hc13]
        first | rw [if_pos (by omega : 0 < sa2 27 (2 * s + 1))] | rw [if_neg (by omega : ¬ 0 < sa2 27 (2 * s + 1))]
        omega
def csL (xs : List Sen) : Nat := (xs.map csS).sum
theorem SensAt.Go {sa sa' : SA} {b : Nat} {xs : List Sen} (h : SensAt sa b xs) (hg : Go sa sa') : SensAt sa' b xs := fun i x hi => (h i x hi).Go hg
theorem csS_le {sa : SA} {s : Nat} {x : Sen} (h : SenAt sa s x) (hok : SOk x) : csS x ≤ 12000 := by
  have h1 := snW_le h hok
  have h2 := h.2.2.1.wd
  have h3 := h.2.2.2.wd
  unfold csS
  have : (if x.1.2.2.2 = 0 then 0 else 3) ≤ 3 := by split <;> omega
  have : (if isS x.2.2.2 then 4 else 0) ≤ 4 := by split <;> omega
  omega
theorem m_costOfAll {d b : Nat} {xs : List Sen} {sf : SF} {sa : SA} (hd : 423 ≤ d) (hb : b + xs.length ≤ 100) (h : SensAt sa b xs) (hok : ∀ x ∈ xs, SOk x ∧ (snT false x).length + 4 ≤ 9000) : MM yX9_costOfAll cX9_costOfAll 5 (some .int) d [.int (iI b), .int (iI xs.length)] sf sa (fun r sf' sa' => r = some (.int (iI (csL xs))) ∧ Gw sf sf' ∧ Go sa sa') := by
  refine MM.of2 (by decide +kernel) rfl (Nat.le_of_ble_eq_true rfl) (fun L g hL X C => ?_)
  have loop : ∀ (ys : List Sen) (i c : Nat) (sfc : SF) (sac : SA), i + ys.length = xs.length → (∀ k x, ys[k]? = some x → xs[i + k]? = some x) → Gw sf sfc → Go sa sac → c + csL ys = csL xs → X 0 0 L (ov sfc sac g) 5 [some (.ref 20), some (.int (iI b)), some (.int (iI xs.length)), some (.int (iI c)), some (.int (iI ((b + i : Nat) : Int)))] [] := by
    intro ys
    induction ys with
    | nil =>
      intro i c sfc sac hi hk g1 g2 hc
      simp only [List.length_nil] at hi
      simp only [csL, List.map_nil, List.sum_nil, Nat.add_zero] at hc
      refine C.iload dX9_costOfAll_5 rfl ?_
      refine C.iload_n dX9_costOfAll_7 rfl ?_
      refine C.iload_n dX9_costOfAll_8 rfl ?_
      refine C.iaddI dX9_costOfAll_9 ?_
      refine C.icmp_geI (tgt := 28) dX9_costOfAll_10 (by decide) (by omega) (by omega) (fun hc10 => ?_) (fun hc10 => absurd hc10 (by omega))
      refine C.iload_n dX9_costOfAll_28 rfl ?_
      refine C.retI rfl (by first | rfl | (exact (iI_bool (by first | exact Or.inl rfl | exact Or.inr rfl | assumption)).1)) dX9_costOfAll_29 (Nat.le_refl _) (Nat.le_refl _) ⟨_, _, ?_, rfl, rfl⟩
      rw [← show c = csL xs from hc]
      exact ⟨rfl, g1, g2⟩
    | cons y ys ih =>
      intro i c sfc sac hi hk g1 g2 hc
      simp only [List.length_cons] at hi
      have hy := hk 0 y rfl
      rw [Nat.add_zero] at hy
      have hyo := hok y (List.mem_of_getElem? hy)
      have hM := m_costOf (d := d - 1) (sf := sfc) (s := b + i) (by omega) (by omega) ((h.Go g2) i y hy) hyo.1 hyo.2
      refine C.iload dX9_costOfAll_5 rfl ?_
      refine C.iload_n dX9_costOfAll_7 rfl ?_
      refine C.iload_n dX9_costOfAll_8 rfl ?_
      refine C.iaddI dX9_costOfAll_9 ?_
      refine C.icmp_geI (tgt := 28) dX9_costOfAll_10 (by decide) (by omega) (by omega) (fun hc10 => absurd hc10 (by omega)) (fun hc10 => ?_)
      refine C.iload_n dX9_costOfAll_13 rfl ?_
      refine C.aload_n dX9_costOfAll_14 rfl ?_
      refine C.iload dX9_costOfAll_15 rfl ?_
      refine C.mcall hL (hM) cw_X9_costOf ml_X9_286 im_X9_costOf sl_X9_costOf dX9_costOfAll_17 rfl rfl (by omega) (Nat.le_refl _) (Nat.le_refl _) (Nat.le_of_ble_eq_true rfl) rfl (fun r17 sf17 sa17 hR17 => ?_)
      obtain ⟨rfl, hg1, hg2⟩ := hR17
      refine C.iaddI dX9_costOfAll_20 ?_
      refine C.istore_n dX9_costOfAll_21 (by decide) rfl ?_
      refine C.iincI dX9_costOfAll_22 rfl (by decide) rfl ?_
      refine C.goto (tgt := 5) dX9_costOfAll_25 (by decide) ?_
      refine ih (i + 1) (c + csS y) _ _ (by omega) (fun k x hx => ?_) (g1.tr hg1) (g2.tr hg2) ?_
      · have := hk (k + 1) x hx
        rw [← this]
        congr 1
        omega
      · rw [← hc]
        simp only [csL, List.map_cons, List.sum_cons]
        omega
  have := loop xs 0 0 sf sa (by omega) (fun k x hx => by rw [Nat.zero_add]; exact hx) Gw.rf Go.rf (by omega)
  refine C.ic dX9_costOfAll_0 ?_
  refine C.istore_n dX9_costOfAll_1 (by decide) rfl ?_
  refine C.iload_n dX9_costOfAll_2 rfl ?_
  refine C.istore dX9_costOfAll_3 (by decide) rfl ?_
  exact this
theorem m_cost {d : Nat} {xs ys : List Sen} {sf : SF} {sa : SA} {bo : Bool} (hd : 424 ≤ d) (h13 : sf 13 = 0 ∨ sf 13 = 1) (h9 : sf 9 = xs.length) (h10 : sf 10 = ys.length) (hx : SensAt sa 0 xs) (hy : SensAt sa 24 ys) (lx : xs.length ≤ 8) (ly : ys.length ≤ 24) (okx : ∀ x ∈ xs, SOk x ∧ (snT false x).length + 4 ≤ 9000) (oky : ∀ x ∈ ys, SOk x ∧ (snT false x).length + 4 ≤ 9000) : MM yX9_cost cX9_cost 2 (some .int) d [.int (iI (b2i bo))] sf sa (fun r sf' sa' => (sf 13 = 0 → r = some (.int (iI 0)) ∧ sf' = va_up sf 0 1 ∧ sa' = sa) ∧ (sf 13 = 1 → r = some (.int (iI (csL (if bo then xs else ys)))) ∧ Gw (va_up sf 0 0) sf' ∧ Go sa sa')) := by
  rcases h13 with h13 | h13
  · have hT := m_throwsIf (d := d - 1) (sf := va_up sf 0 0) (sa := sa) (b := 1) (z := 1) (Or.inr rfl)
    rw [if_neg (by decide)] at hT
    refine MM.of2 (by decide +kernel) rfl (Nat.le_of_ble_eq_true rfl) (fun L g hL X C => ?_)
    refine C.aload_n dX9_cost_0 rfl ?_
    refine C.ic dX9_cost_1 ?_
    refine C.mput hL pf_X9_59 dX9_cost_2 (by decide) rfl ?_
    refine C.aload_n dX9_cost_5 rfl ?_
    refine C.aload_n dX9_cost_6 rfl ?_
    refine C.mget hL gf_X9_219 dX9_cost_7 rfl ?_
    refine C.topI (b := 0) h13 ?_
    refine C.if_neI (tgt := 17) dX9_cost_10 (by decide) (by omega) (fun hc10 => absurd hc10 (fun h => h rfl)) (fun hc10 => ?_)
    refine C.ic dX9_cost_13 ?_
    refine C.goto (tgt := 18) dX9_cost_14 (by decide) ?_
    refine C.ic dX9_cost_18 ?_
    refine C.mcall hL (hT) cw_X9_throwsIf ml_X9_209 im_X9_throwsIf sl_X9_throwsIf dX9_cost_19 rfl rfl (by omega) (Nat.le_refl _) (Nat.le_refl _) (Nat.le_of_ble_eq_true rfl) rfl (fun r19 sf19 sa19 hR19 => ?_)
    obtain ⟨rfl, hs, ha⟩ := hR19
    rw [hs, ha]
    clear hs ha
    refine C.if_eqI (tgt := 27) dX9_cost_22 (by decide) (by decide) (fun hc22 => absurd hc22 (by decide)) (fun hc22 => ?_)
    refine C.ic dX9_cost_25 ?_
    refine C.retI rfl (by first | rfl | (exact (iI_bool (by first | exact Or.inl rfl | exact Or.inr rfl | assumption)).1)) dX9_cost_26 (Nat.le_refl _) (Nat.le_refl _) ⟨_, _, ?_, rfl, rfl⟩
    refine ⟨fun _ => ⟨rfl, ?_, rfl⟩, fun h => absurd (h13.symm.trans h) (by decide)⟩
    funext j
    unfold va_up
    split <;> rfl
  · have hT := m_throwsIf (d := d - 1) (sf := va_up sf 0 0) (sa := sa) (b := 0) (z := 1) (Or.inl rfl)
    rw [if_pos rfl] at hT
    have hA := m_costOfAll (d := d - 1) (b := 0) (xs := xs) (sf := va_up sf 0 0) (sa := sa) (by omega) (by omega) hx okx
    have hB := m_costOfAll (d := d - 1) (b := 24) (xs := ys) (sf := va_up sf 0 0) (sa := sa) (by omega) (by omega) hy oky
    refine MM.of2 (by decide +kernel) rfl (Nat.le_of_ble_eq_true rfl) (fun L g hL X C => ?_)
    cases bo with
    | true =>
      refine C.aload_n dX9_cost_0 rfl ?_
      refine C.ic dX9_cost_1 ?_
      refine C.mput hL pf_X9_59 dX9_cost_2 (by decide) rfl ?_
      refine C.aload_n dX9_cost_5 rfl ?_
      refine C.aload_n dX9_cost_6 rfl ?_
      refine C.mget hL gf_X9_219 dX9_cost_7 rfl ?_
      refine C.topI (b := 1) h13 ?_
      refine C.if_neI (tgt := 17) dX9_cost_10 (by decide) (by omega) (fun hc10 => ?_) (fun hc10 => absurd hc10 (by decide))
      refine C.ic dX9_cost_17 ?_
      refine C.ic dX9_cost_18 ?_
      refine C.mcall hL (hT) cw_X9_throwsIf ml_X9_209 im_X9_throwsIf sl_X9_throwsIf dX9_cost_19 rfl rfl (by omega) (Nat.le_refl _) (Nat.le_refl _) (Nat.le_of_ble_eq_true rfl) rfl (fun r19 sf19 sa19 hR19 => ?_)
      obtain ⟨rfl, hs, ha⟩ := hR19
      rw [hs, ha]
      clear hs ha
      refine C.if_eqI (tgt := 27) dX9_cost_22 (by decide) (by decide) (fun hc22 => ?_) (fun hc22 => absurd hc22 (by decide))
      refine C.iload_n dX9_cost_27 rfl ?_
      refine C.if_eqI (tgt := 43) dX9_cost_28 (by decide) (by decide) (fun hc28 => absurd hc28 (by decide)) (fun hc28 => ?_)
      refine C.aload_n dX9_cost_31 rfl ?_
      refine C.ic dX9_cost_32 ?_
      refine C.aload_n dX9_cost_33 rfl ?_
      refine C.mget hL gf_X9_216 dX9_cost_34 rfl ?_
      refine C.topI (b := (xs.length : Int)) h9 ?_
      refine C.mcall hL (hA) cw_X9_costOfAll ml_X9_289 im_X9_costOfAll sl_X9_costOfAll dX9_cost_37 rfl rfl (by omega) (Nat.le_refl _) (Nat.le_refl _) (Nat.le_of_ble_eq_true rfl) rfl (fun r37 sf37 sa37 hR37 => ?_)
      obtain ⟨rfl, hg1, hg2⟩ := hR37
      refine C.goto (tgt := 53) dX9_cost_40 (by decide) ?_
      refine C.retI rfl (by first | rfl | (exact (iI_bool (by first | exact Or.inl rfl | exact Or.inr rfl | assumption)).1)) dX9_cost_53 (Nat.le_refl _) (Nat.le_refl _) ⟨_, _, ?_, rfl, rfl⟩
      exact ⟨fun h => absurd (h13.symm.trans h) (by decide), fun _ => ⟨rfl, hg1, hg2⟩⟩
    | false =>
      refine C.aload_n dX9_cost_0 rfl ?_
      refine C.ic dX9_cost_1 ?_
      refine C.mput hL pf_X9_59 dX9_cost_2 (by decide) rfl ?_
      refine C.aload_n dX9_cost_5 rfl ?_
      refine C.aload_n dX9_cost_6 rfl ?_
      refine C.mget hL gf_X9_219 dX9_cost_7 rfl ?_
      refine C.topI (b := 1) h13 ?_
      refine C.if_neI (tgt := 17) dX9_cost_10 (by decide) (by omega) (fun hc10 => ?_) (fun hc10 => absurd hc10 (by decide))
      refine C.ic dX9_cost_17 ?_
      refine C.ic dX9_cost_18 ?_
      refine C.mcall hL (hT) cw_X9_throwsIf ml_X9_209 im_X9_throwsIf sl_X9_throwsIf dX9_cost_19 rfl rfl (by omega) (Nat.le_refl _) (Nat.le_refl _) (Nat.le_of_ble_eq_true rfl) rfl (fun r19 sf19 sa19 hR19 => ?_)
      obtain ⟨rfl, hs, ha⟩ := hR19
      rw [hs, ha]
      clear hs ha
      refine C.if_eqI (tgt := 27) dX9_cost_22 (by decide) (by decide) (fun hc22 => ?_) (fun hc22 => absurd hc22 (by decide))
      refine C.iload_n dX9_cost_27 rfl ?_
      refine C.if_eqI (tgt := 43) dX9_cost_28 (by decide) (by decide) (fun hc28 => ?_) (fun hc28 => absurd hc28 (fun h => h rfl))
      refine C.aload_n dX9_cost_43 rfl ?_
      refine C.bi dX9_cost_44 (by decide) ?_
      refine C.aload_n dX9_cost_46 rfl ?_
      refine C.mget hL gf_X9_232 dX9_cost_47 rfl ?_
      refine C.topI (b := (ys.length : Int)) h10 ?_
      refine C.mcall hL (hB) cw_X9_costOfAll ml_X9_289 im_X9_costOfAll sl_X9_costOfAll dX9_cost_50 rfl rfl (by omega) (Nat.le_refl _) (Nat.le_refl _) (Nat.le_of_ble_eq_true rfl) rfl (fun r50 sf50 sa50 hR50 => ?_)
      obtain ⟨rfl, hg1, hg2⟩ := hR50
      refine C.retI rfl (by first | rfl | (exact (iI_bool (by first | exact Or.inl rfl | exact Or.inr rfl | assumption)).1)) dX9_cost_53 (Nat.le_refl _) (Nat.le_refl _) ⟨_, _, ?_, rfl, rfl⟩
      exact ⟨fun h => absurd (h13.symm.trans h) (by decide), fun _ => ⟨rfl, hg1, hg2⟩⟩
