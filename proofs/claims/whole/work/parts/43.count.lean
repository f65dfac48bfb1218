def ctV (sf : SF) (z : Int) : Int := if z = 0 then (if sf 13 = 0 then 0 else sf 9) else if z = 1 then (if sf 13 = 0 then 0 else sf 10) else if z = 2 then sf 21 else if z = 3 then sf 11 else if z = 4 then sf 12 else -1
set_option maxRecDepth 20000 in
theorem m_count {d : Nat} {sf : SF} {sa : SA} {z : Int} (hz : i3 z) (h13 : sf 13 = 0 ∨ sf 13 = 1) : MM yX9_count cX9_count 2 (some .int) d [.int (iI z)] sf sa (fun r sf' sa' => r = some (.int (iI (ctV sf z))) ∧ sf' = va_up sf 0 0 ∧ sa' = sa) := by
  unfold i3 at hz
  by_cases h0 : z = 0
  · subst h0
    refine MM.of2 (by decide +kernel) rfl (Nat.le_of_ble_eq_true rfl) (fun L g hL X C => ?_)
    refine C.aload_n dX9_count_0 rfl ?_
    refine C.ic dX9_count_1 ?_
    refine C.mput hL pf_X9_59 dX9_count_2 (by decide) rfl ?_
    refine C.iload_n dX9_count_5 rfl ?_
    refine C.tableIn (tgt := 40) dX9_count_6 (by decide) (by decide) rfl (by decide) ?_
    refine C.aload_n dX9_count_40 rfl ?_
    refine C.mget hL gf_X9_219 dX9_count_41 rfl ?_
    refine C.topI (b := sf 13) rfl ?_
    refine C.if_eqI (tgt := 54) dX9_count_44 (by decide) (by omega) (fun hc44 => ?_) (fun hc44 => ?_)
    · refine C.ic dX9_count_54 ?_
      refine C.retI rfl (by first | rfl | (exact (iI_bool (by first | exact Or.inl rfl | exact Or.inr rfl | assumption)).1)) dX9_count_55 (Nat.le_refl _) (Nat.le_refl _) ⟨_, _, ?_, rfl, rfl⟩
      refine ⟨?_, rfl, rfl⟩
      unfold ctV
      first | (rw [if_pos rfl, if_pos hc44]) | (rw [if_pos rfl, if_neg hc44]; rfl)
    · refine C.aload_n dX9_count_47 rfl ?_
      refine C.mget hL gf_X9_216 dX9_count_48 rfl ?_
      refine C.goto (tgt := 55) dX9_count_51 (by decide) ?_
      refine C.retI rfl (by first | rfl | (exact (iI_bool (by first | exact Or.inl rfl | exact Or.inr rfl | assumption)).1)) dX9_count_55 (Nat.le_refl _) (Nat.le_refl _) ⟨_, _, ?_, rfl, rfl⟩
      refine ⟨?_, rfl, rfl⟩
      unfold ctV
      first | (rw [if_pos rfl, if_pos hc44]) | (rw [if_pos rfl, if_neg hc44]; rfl)
  by_cases h1 : z = 1
  · subst h1
    refine MM.of2 (by decide +kernel) rfl (Nat.le_of_ble_eq_true rfl) (fun L g hL X C => ?_)
    refine C.aload_n dX9_count_0 rfl ?_
    refine C.ic dX9_count_1 ?_
    refine C.mput hL pf_X9_59 dX9_count_2 (by decide) rfl ?_
    refine C.iload_n dX9_count_5 rfl ?_
    refine C.tableIn (tgt := 56) dX9_count_6 (by decide) (by decide) rfl (by decide) ?_
    refine C.aload_n dX9_count_56 rfl ?_
    refine C.mget hL gf_X9_219 dX9_count_57 rfl ?_
    refine C.topI (b := sf 13) rfl ?_
    refine C.if_eqI (tgt := 70) dX9_count_60 (by decide) (by omega) (fun hc60 => ?_) (fun hc60 => ?_)
    · refine C.ic dX9_count_70 ?_
      refine C.retI rfl (by first | rfl | (exact (iI_bool (by first | exact Or.inl rfl | exact Or.inr rfl | assumption)).1)) dX9_count_71 (Nat.le_refl _) (Nat.le_refl _) ⟨_, _, ?_, rfl, rfl⟩
      refine ⟨?_, rfl, rfl⟩
      unfold ctV
      first | (rw [if_neg (by decide), if_pos rfl, if_pos hc60]) | (rw [if_neg (by decide), if_pos rfl, if_neg hc60]; rfl)
    · refine C.aload_n dX9_count_63 rfl ?_
      refine C.mget hL gf_X9_232 dX9_count_64 rfl ?_
      refine C.goto (tgt := 71) dX9_count_67 (by decide) ?_
      refine C.retI rfl (by first | rfl | (exact (iI_bool (by first | exact Or.inl rfl | exact Or.inr rfl | assumption)).1)) dX9_count_71 (Nat.le_refl _) (Nat.le_refl _) ⟨_, _, ?_, rfl, rfl⟩
      refine ⟨?_, rfl, rfl⟩
      unfold ctV
      first | (rw [if_neg (by decide), if_pos rfl, if_pos hc60]) | (rw [if_neg (by decide), if_pos rfl, if_neg hc60]; rfl)
  by_cases h2 : z = 2
  · subst h2
    refine MM.of2 (by decide +kernel) rfl (Nat.le_of_ble_eq_true rfl) (fun L g hL X C => ?_)
    refine C.aload_n dX9_count_0 rfl ?_
    refine C.ic dX9_count_1 ?_
    refine C.mput hL pf_X9_59 dX9_count_2 (by decide) rfl ?_
    refine C.iload_n dX9_count_5 rfl ?_
    refine C.tableIn (tgt := 72) dX9_count_6 (by decide) (by decide) rfl (by decide) ?_
    refine C.aload_n dX9_count_72 rfl ?_
    refine C.mget hL gf_X9_96 dX9_count_73 rfl ?_
    refine C.retI rfl (by first | rfl | (exact (iI_bool (by first | exact Or.inl rfl | exact Or.inr rfl | assumption)).1)) dX9_count_76 (Nat.le_refl _) (Nat.le_refl _) ⟨_, _, ?_, rfl, rfl⟩
    exact ⟨rfl, rfl, rfl⟩
  by_cases h3 : z = 3
  · subst h3
    refine MM.of2 (by decide +kernel) rfl (Nat.le_of_ble_eq_true rfl) (fun L g hL X C => ?_)
    refine C.aload_n dX9_count_0 rfl ?_
    refine C.ic dX9_count_1 ?_
    refine C.mput hL pf_X9_59 dX9_count_2 (by decide) rfl ?_
    refine C.iload_n dX9_count_5 rfl ?_
    refine C.tableIn (tgt := 77) dX9_count_6 (by decide) (by decide) rfl (by decide) ?_
    refine C.aload_n dX9_count_77 rfl ?_
    refine C.mget hL gf_X9_223 dX9_count_78 rfl ?_
    refine C.retI rfl (by first | rfl | (exact (iI_bool (by first | exact Or.inl rfl | exact Or.inr rfl | assumption)).1)) dX9_count_81 (Nat.le_refl _) (Nat.le_refl _) ⟨_, _, ?_, rfl, rfl⟩
    exact ⟨rfl, rfl, rfl⟩
  by_cases h4 : z = 4
  · subst h4
    refine MM.of2 (by decide +kernel) rfl (Nat.le_of_ble_eq_true rfl) (fun L g hL X C => ?_)
    refine C.aload_n dX9_count_0 rfl ?_
    refine C.ic dX9_count_1 ?_
    refine C.mput hL pf_X9_59 dX9_count_2 (by decide) rfl ?_
    refine C.iload_n dX9_count_5 rfl ?_
    refine C.tableIn (tgt := 82) dX9_count_6 (by decide) (by decide) rfl (by decide) ?_
    refine C.aload_n dX9_count_82 rfl ?_
    refine C.mget hL gf_X9_226 dX9_count_83 rfl ?_
    refine C.retI rfl (by first | rfl | (exact (iI_bool (by first | exact Or.inl rfl | exact Or.inr rfl | assumption)).1)) dX9_count_86 (Nat.le_refl _) (Nat.le_refl _) ⟨_, _, ?_, rfl, rfl⟩
    exact ⟨rfl, rfl, rfl⟩
  refine MM.of2 (by decide +kernel) rfl (Nat.le_of_ble_eq_true rfl) (fun L g hL X C => ?_)
  refine C.aload_n dX9_count_0 rfl ?_
  refine C.ic dX9_count_1 ?_
  refine C.mput hL pf_X9_59 dX9_count_2 (by decide) rfl ?_
  refine C.iload_n dX9_count_5 rfl ?_
  refine C.tableOut (tgt := 87) dX9_count_6 (by rw [iI_toInt hz]; omega) (by decide) ?_
  refine C.ic dX9_count_87 ?_
  refine C.retI rfl (by first | rfl | (exact (iI_bool (by first | exact Or.inl rfl | exact Or.inr rfl | assumption)).1)) dX9_count_88 (Nat.le_refl _) (Nat.le_refl _) ⟨_, _, ?_, rfl, rfl⟩
  refine ⟨?_, rfl, rfl⟩
  unfold ctV
  rw [if_neg h0, if_neg h1, if_neg h2, if_neg h3, if_neg h4]
/-- thrown where there is no letter -/
theorem m_noLetter {d : Nat} {sf : SF} {sa : SA} {b : Int} (hb : b = 0 ∨ b = 1) : MM yX9_throwsIf cX9_throwsIf 3 (some .boolean) d [.int (iI b), .int (iI 1)] sf sa (fun r sf' sa' => r = some (.int (iI b)) ∧ sf' = (if b = 0 then sf else va_up sf 0 1) ∧ sa' = sa) := m_throwsIf hb
theorem m_again {d : Nat} (hd : 2 ≤ d) {sf : SF} {sa : SA} {xs : List Sen} (h13 : sf 13 = 0 ∨ sf 13 = 1) (h9 : sf 9 = xs.length) (hl : xs.length ≤ 8) (h : SensAt sa 0 xs) (hx : ∀ x ∈ xs, SOk x) : MM yX9_again cX9_again 1 none d [] sf sa (fun r sf' sa' => r = none ∧ (sf' = if sf 13 = 0 then va_up sf 0 1 else va_up (va_up sf 0 0) 10 xs.length) ∧ (sf 13 = 0 → sa' = sa) ∧ (sf 13 = 1 → SensAt sa' 24 xs ∧ GbR 24 32 sa sa')) := by
  rcases h13 with h13 | h13
  · have hT := m_throwsIf (d := d - 1) (sf := va_up sf 0 0) (sa := sa) (b := 1) (z := 1) (Or.inr rfl)
    rw [if_neg (by decide)] at hT
    refine MM.of2 (by decide +kernel) rfl (Nat.le_of_ble_eq_true rfl) (fun L g hL X C => ?_)
    refine C.aload_n dX9_again_0 rfl ?_
    refine C.ic dX9_again_1 ?_
    refine C.mput hL pf_X9_59 dX9_again_2 (by decide) rfl ?_
    refine C.aload_n dX9_again_5 rfl ?_
    refine C.aload_n dX9_again_6 rfl ?_
    refine C.mget hL gf_X9_219 dX9_again_7 rfl ?_
    refine C.topI (b := 0) h13 ?_
    refine C.if_neI (tgt := 17) dX9_again_10 (by decide) (by omega) (fun hc10 => absurd hc10 (fun h => h rfl)) (fun hc10 => ?_)
    refine C.ic dX9_again_13 ?_
    refine C.goto (tgt := 18) dX9_again_14 (by decide) ?_
    refine C.ic dX9_again_18 ?_
    refine C.mcall hL (hT) cw_X9_throwsIf ml_X9_209 im_X9_throwsIf sl_X9_throwsIf dX9_again_19 rfl rfl (by omega) (Nat.le_refl _) (Nat.le_refl _) (Nat.le_of_ble_eq_true rfl) rfl (fun r19 sf19 sa19 hR19 => ?_)
    obtain ⟨rfl, hs, ha⟩ := hR19
    rw [hs, ha]
    clear hs ha
    refine C.if_eqI (tgt := 26) dX9_again_22 (by decide) (by decide) (fun hc22 => absurd hc22 (by decide)) (fun hc22 => ?_)
    refine C.vret rfl dX9_again_25 (Nat.le_refl _) (Nat.le_refl _) ⟨_, _, ?_, rfl, rfl⟩
    refine ⟨rfl, ?_, fun _ => rfl, fun h => absurd (h13.symm.trans h) (by decide)⟩
    rw [if_pos h13]
    funext j
    unfold va_up
    split <;> rfl
  · have hT := m_throwsIf (d := d - 1) (sf := va_up sf 0 0) (sa := sa) (b := 0) (z := 1) (Or.inl rfl)
    rw [if_pos rfl] at hT
    have hR := m_renews (d := d - 1) (sf := va_up sf 0 0) (sa := sa) (by omega) h9 hl h hx
    refine MM.of2 (by decide +kernel) rfl (Nat.le_of_ble_eq_true rfl) (fun L g hL X C => ?_)
    refine C.aload_n dX9_again_0 rfl ?_
    refine C.ic dX9_again_1 ?_
    refine C.mput hL pf_X9_59 dX9_again_2 (by decide) rfl ?_
    refine C.aload_n dX9_again_5 rfl ?_
    refine C.aload_n dX9_again_6 rfl ?_
    refine C.mget hL gf_X9_219 dX9_again_7 rfl ?_
    refine C.topI (b := 1) h13 ?_
    refine C.if_neI (tgt := 17) dX9_again_10 (by decide) (by omega) (fun hc10 => ?_) (fun hc10 => absurd hc10 (by decide))
    refine C.ic dX9_again_17 ?_
    refine C.ic dX9_again_18 ?_
    refine C.mcall hL (hT) cw_X9_throwsIf ml_X9_209 im_X9_throwsIf sl_X9_throwsIf dX9_again_19 rfl rfl (by omega) (Nat.le_refl _) (Nat.le_refl _) (Nat.le_of_ble_eq_true rfl) rfl (fun r19 sf19 sa19 hR19 => ?_)
    obtain ⟨rfl, hs, ha⟩ := hR19
    rw [hs, ha]
    clear hs ha
    refine C.if_eqI (tgt := 26) dX9_again_22 (by decide) (by decide) (fun hc22 => ?_) (fun hc22 => absurd hc22 (by decide))
    refine C.aload_n dX9_again_26 rfl ?_
    refine C.mcall hL (hR) cw_X9_renews ml_X9_229 im_X9_renews sl_X9_renews dX9_again_27 rfl rfl (by omega) (Nat.le_refl _) (Nat.le_refl _) (Nat.le_of_ble_eq_true rfl) rfl (fun r27 sf27 sa27 hR27 => ?_)
    obtain ⟨rfl, hs, k1, k2⟩ := hR27
    rw [hs]
    clear hs
    refine C.vret rfl dX9_again_30 (Nat.le_refl _) (Nat.le_refl _) ⟨_, _, ?_, rfl, rfl⟩
    refine ⟨rfl, ?_, fun h => absurd (h13.symm.trans h) (by decide), fun _ => ⟨k1, k2⟩⟩
    rw [if_neg (by rw [h13]; decide)]
theorem cd_10 (t : TT) (ht : isT t) (m : Nat) : (cd t m).count 10 = nt t := by
  revert m
  refine isT_ind (P := fun t => ∀ m, (cd t m).count 10 = nt t) ?_ ?_ ?_ ?_ t ht
  · intro n hn m
    simp only [cd, nt, List.count_cons, List.count_nil]
    rw [if_neg (by simp only [beq_iff_eq]; omega)]
  · intro c _ ih m
    simp only [cd, nt, List.count_cons, ih]
    rfl
  · intro a b _ _ ha hb m
    simp only [cd, nt, List.count_append, ha, hb]
    split
    · simp
    · simp only [List.count_cons, List.count_nil]
      rw [if_neg (by simp only [beq_iff_eq]; omega)]
      omega
  · intro a b _ _ ha hb m
    simp only [cd, nt, List.count_append, ha, hb]
    split
    · simp
    · simp only [List.count_cons, List.count_nil]
      rw [if_neg (by simp only [beq_iff_eq]; omega)]
      omega
def ntO : Option TT → Nat
  | none => 0
  | some t => nt t
/-- a row as a list -/
def cdO : Option TT → List Int
  | none => []
  | some t => cd t 0
theorem RowAt.row {sa : SA} {c : Nat} {o : Option TT} (h : RowAt sa c o) : sa 27 c = (cdO o).length ∧ (∀ j, j < (cdO o).length → sa 28 (c * 420 + j) = (cdO o).getD j 0) ∧ (cdO o).length ≤ 400 ∧ (cdO o).count 10 = ntO o := by
  cases o with
  | none => exact ⟨h, fun j hj => absurd hj (Nat.not_lt_zero _), Nat.zero_le _, rfl⟩
  | some t => exact ⟨h.1, h.2.1, h.2.2.2, cd_10 t h.2.2.1 0⟩
theorem RowAt.code {sa : SA} {c : Nat} {t : TT} (h : RowAt sa c (some t)) : sa 27 c = (cd t 0).length ∧ (∀ j, j < (cd t 0).length → sa 28 (c * 420 + j) = (cd t 0).getD j 0) ∧ isT t ∧ (cd t 0).length ≤ 400 := h
theorem cdV_rng (t : TT) (ht : isT t) (m : Nat) : (cd t m).length ≤ 400 → ∀ v ∈ cd t m, 0 ≤ v ∧ v ≤ 2400 := by
  revert m
  have nn : ∀ t, isT t → ∀ m, nA t ≤ (cd t m).length ∧ nO t ≤ (cd t m).length := by
    refine isT_ind (P := fun t => ∀ m, nA t ≤ (cd t m).length ∧ nO t ≤ (cd t m).length) ?_ ?_ ?_ ?_
    · intro n _ m; simp [cd, nA, nO]
    · intro c _ _ m; simp [cd, nA, nO]
    · intro a b _ _ ha hb m
      have h1 := ha 1
      have h2 := hb 1
      simp only [cd, nA, nO, List.length_append]
      have := cd_len b ‹isT b› 1
      omega
    · intro a b _ _ ha hb m
      have h1 := ha 2
      have h2 := hb 2
      simp only [cd, nA, nO, List.length_append]
      have := cd_len b ‹isT b› 2
      omega
  refine isT_ind (P := fun t => ∀ m, (cd t m).length ≤ 400 → ∀ v ∈ cd t m, 0 ≤ v ∧ v ≤ 2400) ?_ ?_ ?_ ?_ t ht
  · intro n hn m _ v hv
    simp only [cd, List.mem_singleton] at hv
    omega
  · intro c _ ih m hl v hv
    simp only [cd, List.length_cons, List.mem_cons] at hl hv
    rcases hv with rfl | hv
    · omega
    · exact ih 0 (by omega) v hv
  · intro a b h1 h2 ha hb m hl v hv
    have n1 := (nn a h1 1).1
    have n2 := (nn b h2 1).1
    simp only [cd, List.length_append, List.mem_append] at hl hv
    rcases hv with hv | hv | hv
    · split at hv
      · cases hv
      · simp only [List.mem_singleton] at hv
        omega
    · exact ha 1 (by omega) v hv
    · exact hb 1 (by omega) v hv
  · intro a b h1 h2 ha hb m hl v hv
    have n1 := (nn a h1 2).2
    have n2 := (nn b h2 2).2
    simp only [cd, List.length_append, List.mem_append] at hl hv
    rcases hv with hv | hv | hv
    · split at hv
      · cases hv
      · simp only [List.mem_singleton] at hv
        omega
    · exact ha 2 (by omega) v hv
    · exact hb 2 (by omega) v hv
theorem RowAt.vrng {sa : SA} {c : Nat} {o : Option TT} (h : RowAt sa c o) : ∀ j, j < (cdO o).length → 0 ≤ (cdO o).getD j 0 ∧ (cdO o).getD j 0 ≤ 2400 := by
  cases o with
  | none => exact fun j hj => absurd hj (Nat.not_lt_zero _)
  | some t =>
    intro j hj
    refine cdV_rng t h.2.2.1 0 h.2.2.2 _ ?_
    rw [List.getD_eq_getElem?_getD, List.getElem?_eq_getElem hj]
    exact List.getElem_mem hj
set_option maxRecDepth 20000 in
theorem m_notsOf {d : Nat} {sf : SF} {sa : SA} {s : Nat} {w u : Option TT} (hs : s < 100) (h1 : RowAt sa (2 * s) w) (h2 : RowAt sa (2 * s + 1) u) : MM yX9_notsOf cX9_notsOf 5 (some .int) d [.int (iI s)] sf sa (fun r sf' sa' => r = some (.int (iI ((ntO w + ntO u : Nat) : Int))) ∧ sf' = sf ∧ sa' = sa) := by
  refine MM.of2 (by decide +kernel) rfl (Nat.le_of_ble_eq_true rfl) (fun L g hL X C => ?_)
  have row : ∀ (c : Nat) (o : Option TT), c < 200 → RowAt sa c o → ∀ (n0 : Nat), n0 ≤ 1000 → (∀ v, X 0 0 L (ov sf sa g) 65 [some (.ref 20), some (.int (iI s)), some (.int (iI ((n0 + ntO o : Nat) : Int))), some (.int (iI c)), v] []) → ∀ (m k : Nat), k + m = (cdO o).length → X 0 0 L (ov sf sa g) 22 [some (.ref 20), some (.int (iI s)), some (.int (iI ((n0 + ((cdO o).take k).count 10 : Nat) : Int))), some (.int (iI c)), some (.int (iI ((c * 420 + k : Nat) : Int)))] [] := by
    intro c o hc hr n0 hn0 hX m
    obtain ⟨q1, q2, q3, q4⟩ := hr.row
    have q5 := hr.vrng
    induction m with
    | zero =>
      intro k hk
      refine C.iload dX9_notsOf_22 rfl ?_
      refine C.iload_n dX9_notsOf_24 rfl ?_
      refine C.si dX9_notsOf_25 (by decide) ?_
      refine C.imulI dX9_notsOf_28 ?_
      refine C.aload_n dX9_notsOf_29 rfl ?_
      refine C.mget hL gf_X9_29 dX9_notsOf_30 rfl ?_
      refine C.iload_n dX9_notsOf_33 rfl ?_
      refine C.maldk hL dX9_notsOf_34 (by decide) rfl (by decide) rfl (by omega) ?_
      refine C.topI (b := ((cdO o).length : Int)) q1 ?_
      refine C.iaddI dX9_notsOf_35 ?_
      refine C.icmp_geI (tgt := 65) dX9_notsOf_36 (by decide) (by omega) (by omega) (fun hc36 => ?_) (fun hc36 => absurd hc36 (by omega))
      rw [List.take_of_length_le (by omega), q4]
      exact hX _
    | succ m ih =>
      intro k hk
      have hkl : k < (cdO o).length := by omega
      have e1 : sa 28 (c * 420 + k) = (cdO o).getD k 0 := q2 k hkl
      have e2 := q5 k hkl
      have e3 : ((cdO o).take (k + 1)).count 10 = ((cdO o).take k).count 10 + (if (cdO o).getD k 0 = 10 then 1 else 0) := by
        rw [List.take_succ_eq_append_getElem hkl, List.count_append, List.count_singleton, List.getD_eq_getElem?_getD, List.getElem?_eq_getElem hkl]
        simp
      have ih' := ih (k + 1) (by omega)
      rw [e3] at ih'
      refine C.iload dX9_notsOf_22 rfl ?_
      refine C.iload_n dX9_notsOf_24 rfl ?_
      refine C.si dX9_notsOf_25 (by decide) ?_
      refine C.imulI dX9_notsOf_28 ?_
      refine C.aload_n dX9_notsOf_29 rfl ?_
      refine C.mget hL gf_X9_29 dX9_notsOf_30 rfl ?_
      refine C.iload_n dX9_notsOf_33 rfl ?_
      refine C.maldk hL dX9_notsOf_34 (by decide) rfl (by decide) rfl (by omega) ?_
      refine C.topI (b := ((cdO o).length : Int)) q1 ?_
      refine C.iaddI dX9_notsOf_35 ?_
      refine C.icmp_geI (tgt := 65) dX9_notsOf_36 (by decide) (by omega) (by omega) (fun hc36 => absurd hc36 (by omega)) (fun hc36 => ?_)
      refine C.iload_n dX9_notsOf_39 rfl ?_
      refine C.aload_n dX9_notsOf_40 rfl ?_
      refine C.mget hL gf_X9_33 dX9_notsOf_41 rfl ?_
      refine C.iload dX9_notsOf_44 rfl ?_
      refine C.maldk hL (k := c * 420 + k) dX9_notsOf_46 (by decide) rfl (by decide) (by omega) (by omega) ?_
      refine C.topI (b := (cdO o).getD k 0) e1 ?_
      refine C.bi dX9_notsOf_47 (by decide) ?_
      refine C.icmp_neI (tgt := 56) dX9_notsOf_49 (by decide) (by omega) (by omega) (fun hc49 => ?_) (fun hc49 => ?_)
      · refine C.ic dX9_notsOf_56 ?_
        refine C.iaddI dX9_notsOf_57 ?_
        refine C.topI (b := ((n0 + (((cdO o).take k).count 10 + if (cdO o).getD k 0 = 10 then 1 else 0) : Nat) : Int)) (by first | (rw [if_pos (by assumption)]; omega) | (rw [if_neg (by assumption)]; omega)) ?_
        refine C.istore_n dX9_notsOf_58 (by decide) rfl ?_
        refine C.iincI dX9_notsOf_59 rfl (by decide) rfl ?_
        refine C.goto (tgt := 22) dX9_notsOf_62 (by decide) ?_
        refine cast ?_ ih'
        congr 1
      · refine C.ic dX9_notsOf_52 ?_
        refine C.goto (tgt := 57) dX9_notsOf_53 (by decide) ?_
        refine C.iaddI dX9_notsOf_57 ?_
        refine C.topI (b := ((n0 + (((cdO o).take k).count 10 + if (cdO o).getD k 0 = 10 then 1 else 0) : Nat) : Int)) (by first | (rw [if_pos (by assumption)]; omega) | (rw [if_neg (by assumption)]; omega)) ?_
        refine C.istore_n dX9_notsOf_58 (by decide) rfl ?_
        refine C.iincI dX9_notsOf_59 rfl (by decide) rfl ?_
        refine C.goto (tgt := 22) dX9_notsOf_62 (by decide) ?_
        refine cast ?_ ih'
        congr 1
  have r1 := h1.row
  have r2 := h2.row
  have c1 := List.count_le_length (a := (10 : Int)) (l := cdO w)
  have r22 : ∀ v, X 0 0 L (ov sf sa g) 65 [some (.ref 20), some (.int (iI s)), some (.int (iI ((ntO w + ntO u : Nat) : Int))), some (.int (iI ((2 * s + 1 : Nat) : Int))), v] [] := by
    intro v
    refine C.iincI dX9_notsOf_65 rfl (by decide) rfl ?_
    refine C.goto (tgt := 6) dX9_notsOf_68 (by decide) ?_
    refine C.iload_n dX9_notsOf_6 rfl ?_
    refine C.ic dX9_notsOf_7 ?_
    refine C.iload_n dX9_notsOf_8 rfl ?_
    refine C.imulI dX9_notsOf_9 ?_
    refine C.ic dX9_notsOf_10 ?_
    refine C.iaddI dX9_notsOf_11 ?_
    refine C.icmp_geI (tgt := 71) dX9_notsOf_12 (by decide) (by omega) (by omega) (fun hc12 => ?_) (fun hc12 => absurd hc12 (by omega))
    refine C.iload_n dX9_notsOf_71 rfl ?_
    refine C.retI rfl (by first | rfl | (exact (iI_bool (by first | exact Or.inl rfl | exact Or.inr rfl | assumption)).1)) dX9_notsOf_72 (Nat.le_refl _) (Nat.le_refl _) ⟨_, _, ?_, rfl, rfl⟩
    exact ⟨rfl, rfl, rfl⟩
  have r11 : ∀ v, X 0 0 L (ov sf sa g) 65 [some (.ref 20), some (.int (iI s)), some (.int (iI ((0 + ntO w : Nat) : Int))), some (.int (iI ((2 * s : Nat) : Int))), v] [] := by
    intro v
    have := row (2 * s + 1) u (by omega) h2 (ntO w) (by omega) r22 (cdO u).length 0 (by omega)
    refine C.iincI dX9_notsOf_65 rfl (by decide) rfl ?_
    refine C.goto (tgt := 6) dX9_notsOf_68 (by decide) ?_
    refine C.iload_n dX9_notsOf_6 rfl ?_
    refine C.ic dX9_notsOf_7 ?_
    refine C.iload_n dX9_notsOf_8 rfl ?_
    refine C.imulI dX9_notsOf_9 ?_
    refine C.ic dX9_notsOf_10 ?_
    refine C.iaddI dX9_notsOf_11 ?_
    refine C.icmp_geI (tgt := 71) dX9_notsOf_12 (by decide) (by omega) (by omega) (fun hc12 => absurd hc12 (by omega)) (fun hc12 => ?_)
    refine C.iload_n dX9_notsOf_15 rfl ?_
    refine C.si dX9_notsOf_16 (by decide) ?_
    refine C.imulI dX9_notsOf_19 ?_
    refine C.istore dX9_notsOf_20 (by decide) rfl ?_
    refine cast ?_ this
    simp
  have := row (2 * s) w (by omega) h1 0 (by omega) r11 (cdO w).length 0 (by omega)
  refine C.ic dX9_notsOf_0 ?_
  refine C.istore_n dX9_notsOf_1 (by decide) rfl ?_
  refine C.ic dX9_notsOf_2 ?_
  refine C.iload_n dX9_notsOf_3 rfl ?_
  refine C.imulI dX9_notsOf_4 ?_
  refine C.istore_n dX9_notsOf_5 (by decide) rfl ?_
  refine C.iload_n dX9_notsOf_6 rfl ?_
  refine C.ic dX9_notsOf_7 ?_
  refine C.iload_n dX9_notsOf_8 rfl ?_
  refine C.imulI dX9_notsOf_9 ?_
  refine C.ic dX9_notsOf_10 ?_
  refine C.iaddI dX9_notsOf_11 ?_
  refine C.icmp_geI (tgt := 71) dX9_notsOf_12 (by decide) (by omega) (by omega) (fun hc12 => absurd hc12 (by omega)) (fun hc12 => ?_)
  refine C.iload_n dX9_notsOf_15 rfl ?_
  refine C.si dX9_notsOf_16 (by decide) ?_
  refine C.imulI dX9_notsOf_19 ?_
  refine C.istore dX9_notsOf_20 (by decide) rfl ?_
  refine cast ?_ this
  simp
  exact Iff.rfl
