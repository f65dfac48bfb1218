/-- a letter's text -/
def ltR (xs : List Sen) : List Int := xs.flatMap (fun y => 59 :: snT true y)
def ltT : List Sen → List Int
  | [] => []
  | x :: xs => snT false x ++ ltR xs
theorem dgL_rng {v : Int} (h : 0 ≤ v) : ∀ z ∈ dgL v, -128 ≤ z ∧ z < 128 := by
  intro z hz
  unfold dgL at hz
  split at hz
  · simp only [List.mem_cons, List.not_mem_nil, or_false] at hz
    omega
  · split at hz
    · simp only [List.mem_cons, List.not_mem_nil, or_false] at hz
      omega
    · simp only [List.mem_cons, List.not_mem_nil, or_false] at hz
      omega
/-- bytes -/
abbrev isB (zs : List Int) : Prop := ∀ z ∈ zs, -128 ≤ z ∧ z < 128
theorem isB.app {xs ys : List Int} (h1 : isB xs) (h2 : isB ys) : isB (xs ++ ys) := fun z hz => by
  rcases List.mem_append.mp hz with h | h
  · exact h1 z h
  · exact h2 z h
theorem isB.cons {x : Int} {ys : List Int} (h1 : -128 ≤ x ∧ x < 128) (h2 : isB ys) : isB (x :: ys) := fun z hz => by
  rcases List.mem_cons.mp hz with h | h
  · rw [h]; exact h1
  · exact h2 z h
theorem isB.nil : isB [] := fun z hz => by cases hz
theorem isB_sp (f : Bool) : isB (sp f) := by cases f <;> decide
theorem wt_B (t : TT) (ht : isT t) : ∀ m f, isB (wt t m f) := by
  refine isT_ind (P := fun t => ∀ m f, isB (wt t m f)) ?_ ?_ ?_ ?_ t ht
  · intro n hn m f
    simp only [wt]
    exact ((isB_sp f).app (by decide)).app (isB.cons (by omega) (isB.cons (by omega) isB.nil))
  · intro c _ ih m f
    simp only [wt]
    exact ((isB_sp f).app (by decide)).app (ih 3 true)
  · intro a b _ _ ha hb m f
    simp only [wt]
    split
    · exact (((isB_sp f).app (by decide)).app ((ha 1 false).app (isB.cons (by omega) ((show isB zAnd by decide).app (hb 1 true))))).app (by decide)
    · exact (ha 1 f).app (isB.cons (by omega) ((show isB zAnd by decide).app (hb 1 true)))
  · intro a b _ _ ha hb m f
    simp only [wt]
    split
    · exact (((isB_sp f).app (by decide)).app ((ha 2 false).app (isB.cons (by omega) ((show isB zOr by decide).app (hb 2 true))))).app (by decide)
    · exact (ha 2 f).app (isB.cons (by omega) ((show isB zOr by decide).app (hb 2 true)))
theorem acR_B {xs : List Int} (h : ∀ v ∈ xs, 0 ≤ v ∧ v ≤ 9) : isB (acR xs) := by
  induction xs with
  | nil => exact isB.nil
  | cons y ys ih =>
    unfold acR
    rw [List.flatMap_cons]
    have h1 : isB (dgL y) := dgL_rng (h y List.mem_cons_self).1
    exact ((isB.cons (by omega) ((show isB zAnd by decide).app (isB.cons (by omega) ((show isB zAct by decide).app (isB.cons (by omega) h1))))) : isB (32 :: zAnd ++ (32 :: zAct ++ 32 :: dgL y))).app (ih (fun v hv => h v (List.mem_cons_of_mem _ hv)))
theorem acT_B {f : Bool} {xs : List Int} (h : ∀ v ∈ xs, 0 ≤ v ∧ v ≤ 9) : isB (acT f xs) := by
  cases xs with
  | nil => exact isB.nil
  | cons y ys =>
    unfold acT
    have h1 : isB (dgL y) := dgL_rng (h y List.mem_cons_self).1
    exact (((isB_sp f).app (by decide)).app (isB.cons (by omega) h1)).app (acR_B (fun v hv => h v (List.mem_cons_of_mem _ hv)))
theorem whT_B (v : Int) : isB (whT v) := by
  unfold whT
  split
  · decide
  · split <;> decide
theorem moT_B (v : Int) : isB (moT v) := by
  unfold moT
  refine isB.app ?_ ?_
  · split <;> decide
  · split <;> decide
def tOk (o : Option TT) : Prop := match o with
  | none => True
  | some t => isT t
theorem RowAt.tOk {sa : SA} {c : Nat} {o : Option TT} (h : RowAt sa c o) : tOk o := by
  cases o with
  | none => trivial
  | some t => exact h.2.2.1
theorem snT_B {f : Bool} {x : Sen} (hok : SOk x) (hw : tOk x.2.2.1) (hu : tOk x.2.2.2) : isB (snT f x) := by
  obtain ⟨⟨acts, who, mode, pas⟩, days, w, u⟩ := x
  have k3 := hok.1.1.2.2.1
  have k9 := hok.2
  simp only [] at k3 k9 hw hu
  unfold snT
  refine ((isB.app ?_ ?_).app ?_).app ?_
  · cases w with
    | none => exact isB.nil
    | some t => exact (((isB_sp f).app (by decide)).app (wt_B t hw 0 true)).app (by decide)
  · unfold bdT
    split
    · exact (((isB_sp _).app (whT_B _)).app ((isB_sp _).app (moT_B _))).app (acT_B k3)
    · refine ((((acT_B k3).app ((isB_sp _).app (moT_B _))).app ((isB_sp _).app (by decide))).app ((isB_sp _).app (by decide))).app ?_
      split
      · exact ((isB_sp _).app (by decide)).app ((isB_sp _).app (whT_B _))
      · exact isB.nil
  · cases u with
    | none => exact isB.nil
    | some t => exact ((isB_sp true).app (by decide)).app (wt_B t hu 0 true)
  · unfold wiT
    split
    · exact isB.nil
    · rename_i hd
      exact ((isB_sp true).app (by decide)).app (isB.cons (by omega) (dgL_rng (by simpa using hd)))
theorem ltR_B {xs : List Sen} (h : ∀ x ∈ xs, SOk x ∧ tOk x.2.2.1 ∧ tOk x.2.2.2) : isB (ltR xs) := by
  induction xs with
  | nil => exact isB.nil
  | cons y ys ih =>
    unfold ltR
    rw [List.flatMap_cons]
    obtain ⟨h1, h2, h3⟩ := h y List.mem_cons_self
    exact (isB.cons (by omega) (snT_B h1 h2 h3)).app (ih (fun v hv => h v (List.mem_cons_of_mem _ hv)))
theorem ltT_B {xs : List Sen} (h : ∀ x ∈ xs, SOk x ∧ tOk x.2.2.1 ∧ tOk x.2.2.2) : isB (ltT xs) := by
  cases xs with
  | nil => exact isB.nil
  | cons y ys =>
    obtain ⟨h1, h2, h3⟩ := h y List.mem_cons_self
    exact (snT_B h1 h2 h3).app (ltR_B (fun v hv => h v (List.mem_cons_of_mem _ hv)))
theorem snT_pos {f : Bool} {x : Sen} (hok : SOk x) : 0 < (snT f x).length := by
  have h1 := hok.1.1.2.1
  have h2 : ∀ f, 0 < (acT f x.1.1).length := fun f => List.length_pos_iff.mpr (acT_ne h1)
  have : 0 < (bdT (f || isS x.2.2.1) x.1).length := by
    unfold bdT
    have q1 := h2 true
    have q2 := h2 (f || isS x.2.2.1)
    split <;> simp only [List.length_append] <;> omega
  unfold snT
  simp only [List.length_append]
  omega
set_option maxRecDepth 20000 in
set_option maxHeartbeats 2000000 in
theorem m_write {d : Nat} {ys : List Sen} {sf : SF} {sa : SA} (hd : 424 ≤ d) (h13 : sf 13 = 0 ∨ sf 13 = 1) (h10 : sf 10 = ys.length) (hy : SensAt sa 24 ys) (ly : ys.length ≤ 24) (oky : ∀ x ∈ ys, SOk x) (hroom : (ltT ys).length + 4 ≤ 9000) : MM yX9_write cX9_write 2 (some .int) d [] sf sa (fun r sf' sa' => (sf 13 = 0 → r = some (.int (iI 0)) ∧ sf' = va_up sf 0 1 ∧ sa' = sa) ∧ (sf 13 = 1 → (if (ltT ys).length ≤ 400 then r = some (.int (iI (ltT ys).length)) ∧ Gw (va_up (va_up sf 0 0) 21 (ltT ys).length) sf' ∧ Go (wrS sa 32 0 (ltT ys)) sa' else r = some (.int (iI (-1))) ∧ Gw (va_up sf 0 0) sf' ∧ Go sa sa'))) := by
  rcases h13 with h13 | h13
  · have hT := m_throwsIf (d := d - 1) (sf := va_up sf 0 0) (sa := sa) (b := 1) (z := 1) (Or.inr rfl)
    rw [if_neg (by decide)] at hT
    refine MM.of2 (by decide +kernel) rfl (Nat.le_of_ble_eq_true rfl) (fun L g hL X C => ?_)
    refine C.aload_n dX9_write_0 rfl ?_
    refine C.ic dX9_write_1 ?_
    refine C.mput hL pf_X9_59 dX9_write_2 (by decide) rfl ?_
    refine C.aload_n dX9_write_5 rfl ?_
    refine C.aload_n dX9_write_6 rfl ?_
    refine C.mget hL gf_X9_219 dX9_write_7 rfl ?_
    refine C.topI (b := 0) h13 ?_
    refine C.if_neI (tgt := 17) dX9_write_10 (by decide) (by omega) (fun hc10 => absurd hc10 (fun h => h rfl)) (fun hc10 => ?_)
    refine C.ic dX9_write_13 ?_
    refine C.goto (tgt := 18) dX9_write_14 (by decide) ?_
    refine C.ic dX9_write_18 ?_
    refine C.mcall hL (hT) cw_X9_throwsIf ml_X9_209 im_X9_throwsIf sl_X9_throwsIf dX9_write_19 rfl rfl (by omega) (Nat.le_refl _) (Nat.le_refl _) (Nat.le_of_ble_eq_true rfl) rfl (fun r19 sf19 sa19 hR19 => ?_)
    obtain ⟨rfl, hs, ha⟩ := hR19
    rw [hs, ha]
    clear hs ha
    refine C.if_eqI (tgt := 27) dX9_write_22 (by decide) (by decide) (fun hc22 => absurd hc22 (by decide)) (fun hc22 => ?_)
    refine C.ic dX9_write_25 ?_
    refine C.retI rfl (by first | rfl | (exact (iI_bool (by first | exact Or.inl rfl | exact Or.inr rfl | assumption)).1)) dX9_write_26 (Nat.le_refl _) (Nat.le_refl _) ⟨_, _, ?_, rfl, rfl⟩
    refine ⟨fun _ => ⟨rfl, ?_, rfl⟩, fun h => absurd (h13.symm.trans h) (by decide)⟩
    funext j
    unfold va_up
    split <;> rfl
  · have hT := m_throwsIf (d := d - 1) (sf := va_up sf 0 0) (sa := sa) (b := 0) (z := 1) (Or.inl rfl)
    rw [if_pos rfl] at hT
    have hB : isB (ltT ys) := ltT_B (fun x hx => by
      obtain ⟨i, hi⟩ := List.getElem?_of_mem hx
      exact ⟨oky x hx, (hy i x hi).2.2.1.tOk, (hy i x hi).2.2.2.tOk⟩)
    refine MM.of2 (by decide +kernel) rfl (Nat.le_of_ble_eq_true rfl) (fun L g hL X C => ?_)
    have fin : ∀ (sfc : SF) (sac : SA), Gw (va_up sf 0 0) sfc → sfc 29 = (ltT ys).length → sac = wrS sa 34 0 (ltT ys) → ∀ v, X 0 0 L (ov sfc sac g) 68 [some (.ref 20), v] [] := by
      intro sfc sac hg h29 hs v
      by_cases hlen : (ltT ys).length ≤ 400
      · have cl : ∀ (m k : Nat) (sa2 : SA), k + m = (ltT ys).length → sa2 = wrS sac 32 0 ((ltT ys).take k) → X 0 0 L (ov sfc sa2 g) 82 [some (.ref 20), some (.int (iI k))] [] := by
          intro m
          induction m with
          | zero =>
            intro k sa2 hk hs2
            rw [List.take_of_length_le (by omega)] at hs2
            refine C.iload_n dX9_write_82 rfl ?_
            refine C.aload_n dX9_write_83 rfl ?_
            refine C.mget hL gf_X9_235 dX9_write_84 rfl ?_
            refine C.topI (b := ((ltT ys).length : Int)) h29 ?_
            refine C.icmp_geI (tgt := 108) dX9_write_87 (by decide) (by omega) (by omega) (fun hc87 => ?_) (fun hc87 => absurd hc87 (by omega))
            refine C.aload_n dX9_write_108 rfl ?_
            refine C.aload_n dX9_write_109 rfl ?_
            refine C.mget hL gf_X9_235 dX9_write_110 rfl ?_
            refine C.topI (b := ((ltT ys).length : Int)) h29 ?_
            refine C.mput hL pf_X9_96 dX9_write_113 (by decide) rfl ?_
            refine C.aload_n dX9_write_116 rfl ?_
            refine C.mget hL gf_X9_96 dX9_write_117 rfl ?_
            refine C.retI rfl (by first | rfl | (exact (iI_bool (by first | exact Or.inl rfl | exact Or.inr rfl | assumption)).1)) dX9_write_120 (Nat.le_refl _) (Nat.le_refl _) ⟨_, _, ?_, rfl, rfl⟩
            refine ⟨fun h => absurd (h13.symm.trans h) (by decide), fun _ => ?_⟩
            rw [if_pos hlen]
            refine ⟨rfl, fun j q1 q2 q3 q4 => ?_, fun a ha => ?_⟩
            · by_cases hj : j = 21
              · subst hj; rw [va_up_self, va_up_self]
              · rw [va_up_ne _ _ hj, va_up_ne _ _ hj]; exact hg j q1 q2 q3 q4
            · rw [hs2, hs]
              funext i
              unfold wrS
              rw [if_neg (fun q : a = 34 ∧ _ => ha q.1)]
          | succ m ih =>
            intro k sa2 hk hs2
            have e34 : sa2 34 k = (ltT ys).getD k 0 := by
              rw [hs2, wrS_ne (by decide), hs]
              unfold wrS
              rw [if_pos ⟨rfl, by omega, by omega⟩, Nat.sub_zero]
            have hz := hB ((ltT ys).getD k 0) (by rw [List.getD_eq_getElem?_getD, List.getElem?_eq_getElem (by omega)]; exact List.getElem_mem _)
            refine C.iload_n dX9_write_82 rfl ?_
            refine C.aload_n dX9_write_83 rfl ?_
            refine C.mget hL gf_X9_235 dX9_write_84 rfl ?_
            refine C.topI (b := ((ltT ys).length : Int)) h29 ?_
            refine C.icmp_geI (tgt := 108) dX9_write_87 (by decide) (by omega) (by omega) (fun hc87 => absurd hc87 (by omega)) (fun hc87 => ?_)
            refine C.aload_n dX9_write_90 rfl ?_
            refine C.mget hL gf_X9_45 dX9_write_91 rfl ?_
            refine C.iload_n dX9_write_94 rfl ?_
            refine C.aload_n dX9_write_95 rfl ?_
            refine C.mget hL gf_X9_56 dX9_write_96 rfl ?_
            refine C.iload_n dX9_write_99 rfl ?_
            refine C.maldbk hL dX9_write_100 (by decide) rfl (by decide) rfl (by omega) ?_
            refine C.topI (b := (ltT ys).getD k 0) e34 ?_
            refine C.mastbk hL (ovs_32 _ _ _) dX9_write_101 (by decide) rfl (by decide) rfl (by omega) hz ?_
            refine C.iincI dX9_write_102 rfl (by decide) rfl ?_
            refine C.goto (tgt := 82) dX9_write_105 (by decide) ?_
            refine ih (k + 1) _ (by omega) ?_
            rw [wrS_one, hs2, List.take_succ_eq_append_getElem (by omega), ← wrS_app, List.length_take, Nat.min_eq_left (by omega), List.getD_eq_getElem?_getD, List.getElem?_eq_getElem (by omega), Nat.zero_add]
            rfl
        have := cl (ltT ys).length 0 sac (by omega) (by rw [List.take_zero, wrS_nil])
        refine C.aload_n dX9_write_68 rfl ?_
        refine C.mget hL gf_X9_235 dX9_write_69 rfl ?_
        refine C.topI (b := ((ltT ys).length : Int)) h29 ?_
        refine C.si dX9_write_72 (by decide) ?_
        refine C.icmp_leI (tgt := 80) dX9_write_75 (by decide) (by omega) (by omega) (fun hc75 => ?_) (fun hc75 => absurd hc75 (by omega))
        refine C.ic dX9_write_80 ?_
        refine C.istore_n dX9_write_81 (by decide) rfl ?_
        exact this
      · refine C.aload_n dX9_write_68 rfl ?_
        refine C.mget hL gf_X9_235 dX9_write_69 rfl ?_
        refine C.topI (b := ((ltT ys).length : Int)) h29 ?_
        refine C.si dX9_write_72 (by decide) ?_
        refine C.icmp_leI (tgt := 80) dX9_write_75 (by decide) (by omega) (by omega) (fun hc75 => absurd hc75 (by omega)) (fun hc75 => ?_)
        refine C.ic dX9_write_78 ?_
        refine C.retI rfl (by first | rfl | (exact (iI_bool (by first | exact Or.inl rfl | exact Or.inr rfl | assumption)).1)) dX9_write_79 (Nat.le_refl _) (Nat.le_refl _) ⟨_, _, ?_, rfl, rfl⟩
        refine ⟨fun h => absurd (h13.symm.trans h) (by decide), fun _ => ?_⟩
        rw [if_neg hlen]
        exact ⟨rfl, hg, fun a ha => by rw [hs, wrS_ne ha]⟩
    have loop : ∀ (zs : List Sen) (i : Nat) (T : List Int) (sfc : SF) (sac : SA), i + zs.length = ys.length → 1 ≤ i → (∀ k x, zs[k]? = some x → ys[i + k]? = some x) → Gw (va_up sf 0 0) sfc → sfc 29 = T.length → 0 < T.length → sac = wrS sa 34 0 T → T ++ ltR zs = ltT ys → X 0 0 L (ov sfc sac g) 34 [some (.ref 20), some (.int (iI i))] [] := by
      intro zs
      induction zs with
      | nil =>
        intro i T sfc sac hi hi1 hk hg h29 hT0 hs hT
        simp only [List.length_nil] at hi
        simp only [ltR, List.flatMap_nil, List.append_nil] at hT
        have h10' : sfc 10 = ys.length := by rw [hg 10 (by decide) (by decide) (by decide) (by decide)]; exact h10
        refine C.iload_n dX9_write_34 rfl ?_
        refine C.aload_n dX9_write_35 rfl ?_
        refine C.mget hL gf_X9_232 dX9_write_36 rfl ?_
        refine C.topI (b := (ys.length : Int)) h10' ?_
        refine C.icmp_geI (tgt := 68) dX9_write_39 (by decide) (by omega) (by omega) (fun hc39 => ?_) (fun hc39 => absurd hc39 (by omega))
        exact fin sfc sac hg (by rw [← hT]; exact h29) (by rw [← hT]; exact hs) _
      | cons z zs ih =>
        intro i T sfc sac hi hi1 hk hg h29 hT0 hs hT
        simp only [List.length_cons] at hi
        have h10' : sfc 10 = ys.length := by rw [hg 10 (by decide) (by decide) (by decide) (by decide)]; exact h10
        have hz := hk 0 z rfl
        rw [Nat.add_zero] at hz
        have hT1 : T ++ [59] ++ snT true z ++ ltR zs = ltT ys := by rw [← hT]; simp [ltR]
        rw [← hT1] at hroom
        simp only [List.length_append, List.length_cons, List.length_nil] at hroom
        have hP := m_put (d := d - 1) (n := T.length) (bk := false) (sa := sac) (by omega) (Wv.rf rfl h29 rfl rfl : Wv sfc sfc (sfc 18) T.length (sfc 30) (sfc 31)) tSemi (by simp; omega)
        rw [show sp (false && decide (0 < T.length)) ++ [59] = [59] from rfl] at hP
        refine C.iload_n dX9_write_34 rfl ?_
        refine C.aload_n dX9_write_35 rfl ?_
        refine C.mget hL gf_X9_232 dX9_write_36 rfl ?_
        refine C.topI (b := (ys.length : Int)) h10' ?_
        refine C.icmp_geI (tgt := 68) dX9_write_39 (by decide) (by omega) (by omega) (fun hc39 => absurd hc39 (by omega)) (fun hc39 => ?_)
        refine C.iload_n dX9_write_42 rfl ?_
        refine C.if_leI (tgt := 54) dX9_write_43 (by decide) (by omega) (fun hc43 => absurd hc43 (by omega)) (fun hc43 => ?_)
        refine C.aload_n dX9_write_46 rfl ?_
        refine C.ldsw dX9_write_47 (j := 36) rfl ?_
        refine C.ic dX9_write_50 ?_
        refine C.mcall hL (hP) cw_X9_put ml_X9_241 im_X9_put sl_X9_put dX9_write_51 rfl rfl (by omega) (Nat.le_refl _) (Nat.le_refl _) (Nat.le_of_ble_eq_true rfl) rfl (fun r51 sf51 sa51 hR51 => ?_)
        obtain ⟨rfl, hw1, ha⟩ := hR51
        rw [ha]
        clear ha
        have hgo : Go sa (wrS sac 34 T.length [59]) := fun a ha => by rw [wrS_ne ha, hs, wrS_ne ha]
        have hM := m_putSentence (d := d - 1) (n := T.length + 1) (s := 24 + i) (x := z) (by omega) (by omega) hw1.2.2.1 ((hy i z hz).Go hgo) (oky z (List.mem_of_getElem? hz)) (by rw [decide_eq_true (by omega)]; omega)
        rw [decide_eq_true (by omega)] at hM
        refine C.aload_n dX9_write_54 rfl ?_
        refine C.bi dX9_write_55 (by decide) ?_
        refine C.iload_n dX9_write_57 rfl ?_
        refine C.iaddI dX9_write_58 ?_
        refine C.topI (b := ((24 + i : Nat) : Int)) (by omega) ?_
        refine C.mcall hL (hM) cw_X9_putSentence ml_X9_277 im_X9_putSentence sl_X9_putSentence dX9_write_59 rfl rfl (by omega) (Nat.le_refl _) (Nat.le_refl _) (Nat.le_of_ble_eq_true rfl) rfl (fun r59 sf59 sa59 hR59 => ?_)
        obtain ⟨rfl, hw2⟩ := hR59
        obtain ⟨a2, hW2⟩ := id hw2.1
        refine C.iincI dX9_write_62 rfl (by decide) rfl ?_
        refine C.goto (tgt := 34) dX9_write_65 (by decide) ?_
        refine ih (i + 1) (T ++ [59] ++ snT true z) _ _ (by omega) (by omega) (fun k x hx => ?_) ?_ ?_ ?_ ?_ hT1
        · have := hk (k + 1) x hx
          rw [← this]
          congr 1
          omega
        · exact (hg.tr hw1.1).tr hw2.Gw
        · rw [hW2.2.2.1]; simp only [List.length_append, List.length_cons, List.length_nil]
        · simp only [List.length_append]; omega
        · rw [hw2.2, hs, List.append_assoc, ← wrS_app, ← wrS_app, Nat.zero_add]
          rfl
    cases ys with
    | nil =>
      have := fin (va_up (va_up sf 0 0) 29 0) sa (fun j q1 q2 q3 q4 => va_up_ne _ _ q2) rfl wrS_nil.symm
      refine C.aload_n dX9_write_0 rfl ?_
      refine C.ic dX9_write_1 ?_
      refine C.mput hL pf_X9_59 dX9_write_2 (by decide) rfl ?_
      refine C.aload_n dX9_write_5 rfl ?_
      refine C.aload_n dX9_write_6 rfl ?_
      refine C.mget hL gf_X9_219 dX9_write_7 rfl ?_
      refine C.topI (b := 1) h13 ?_
      refine C.if_neI (tgt := 17) dX9_write_10 (by decide) (by omega) (fun hc10 => ?_) (fun hc10 => absurd hc10 (by decide))
      refine C.ic dX9_write_17 ?_
      refine C.ic dX9_write_18 ?_
      refine C.mcall hL (hT) cw_X9_throwsIf ml_X9_209 im_X9_throwsIf sl_X9_throwsIf dX9_write_19 rfl rfl (by omega) (Nat.le_refl _) (Nat.le_refl _) (Nat.le_of_ble_eq_true rfl) rfl (fun r19 sf19 sa19 hR19 => ?_)
      obtain ⟨rfl, hs, ha⟩ := hR19
      rw [hs, ha]
      clear hs ha
      refine C.if_eqI (tgt := 27) dX9_write_22 (by decide) (by decide) (fun hc22 => ?_) (fun hc22 => absurd hc22 (by decide))
      refine C.aload_n dX9_write_27 rfl ?_
      refine C.ic dX9_write_28 ?_
      refine C.mput hL pf_X9_235 dX9_write_29 (by decide) rfl ?_
      refine C.ic dX9_write_32 ?_
      refine C.istore_n dX9_write_33 (by decide) rfl ?_
      refine C.iload_n dX9_write_34 rfl ?_
      refine C.aload_n dX9_write_35 rfl ?_
      refine C.mget hL gf_X9_232 dX9_write_36 rfl ?_
      refine C.topI (b := 0) h10 ?_
      refine C.icmp_geI (tgt := 68) dX9_write_39 (by decide) (by omega) (by omega) (fun hc39 => ?_) (fun hc39 => absurd hc39 (by decide))
      exact this _
    | cons z zs =>
      simp only [ltT, List.length_append] at hroom
      have hM := m_putSentence (d := d - 1) (n := 0) (s := 24) (x := z) (sf := va_up (va_up sf 0 0) 29 0) (by omega) (by omega) rfl (hy 0 z rfl) (oky z List.mem_cons_self) (by rw [decide_eq_false (by omega)]; omega)
      rw [decide_eq_false (by omega)] at hM
      refine C.aload_n dX9_write_0 rfl ?_
      refine C.ic dX9_write_1 ?_
      refine C.mput hL pf_X9_59 dX9_write_2 (by decide) rfl ?_
      refine C.aload_n dX9_write_5 rfl ?_
      refine C.aload_n dX9_write_6 rfl ?_
      refine C.mget hL gf_X9_219 dX9_write_7 rfl ?_
      refine C.topI (b := 1) h13 ?_
      refine C.if_neI (tgt := 17) dX9_write_10 (by decide) (by omega) (fun hc10 => ?_) (fun hc10 => absurd hc10 (by decide))
      refine C.ic dX9_write_17 ?_
      refine C.ic dX9_write_18 ?_
      refine C.mcall hL (hT) cw_X9_throwsIf ml_X9_209 im_X9_throwsIf sl_X9_throwsIf dX9_write_19 rfl rfl (by omega) (Nat.le_refl _) (Nat.le_refl _) (Nat.le_of_ble_eq_true rfl) rfl (fun r19 sf19 sa19 hR19 => ?_)
      obtain ⟨rfl, hs, ha⟩ := hR19
      rw [hs, ha]
      clear hs ha
      refine C.if_eqI (tgt := 27) dX9_write_22 (by decide) (by decide) (fun hc22 => ?_) (fun hc22 => absurd hc22 (by decide))
      refine C.aload_n dX9_write_27 rfl ?_
      refine C.ic dX9_write_28 ?_
      refine C.mput hL pf_X9_235 dX9_write_29 (by decide) rfl ?_
      refine C.ic dX9_write_32 ?_
      refine C.istore_n dX9_write_33 (by decide) rfl ?_
      skip
      refine C.iload_n dX9_write_34 rfl ?_
      refine C.aload_n dX9_write_35 rfl ?_
      refine C.mget hL gf_X9_232 dX9_write_36 rfl ?_
      refine C.topI (b := ((z :: zs).length : Int)) h10 ?_
      refine C.icmp_geI (tgt := 68) dX9_write_39 (by decide) (by omega) (by simp only [List.length_cons] at ly ⊢; omega) (fun hc39 => absurd hc39 (by simp only [List.length_cons] at hc39; omega)) (fun hc39 => ?_)
      refine C.iload_n dX9_write_42 rfl ?_
      refine C.if_leI (tgt := 54) dX9_write_43 (by decide) (by omega) (fun hc43 => ?_) (fun hc43 => absurd hc43 (by omega))
      refine C.aload_n dX9_write_54 rfl ?_
      refine C.bi dX9_write_55 (by decide) ?_
      refine C.iload_n dX9_write_57 rfl ?_
      refine C.iaddI dX9_write_58 ?_
      refine C.topI (b := ((24 : Nat) : Int)) (by omega) ?_
      refine C.mcall hL (hM) cw_X9_putSentence ml_X9_277 im_X9_putSentence sl_X9_putSentence dX9_write_59 rfl rfl (by omega) (Nat.le_refl _) (Nat.le_refl _) (Nat.le_of_ble_eq_true rfl) rfl (fun r59 sf59 sa59 hR59 => ?_)
      obtain ⟨rfl, hw2⟩ := hR59
      obtain ⟨a2, hW2⟩ := id hw2.1
      refine C.iincI dX9_write_62 rfl (by decide) rfl ?_
      refine C.goto (tgt := 34) dX9_write_65 (by decide) ?_
      refine loop zs 1 (snT false z) _ _ (by simp only [List.length_cons]; omega) (by omega) (fun k x hx => ?_) ?_ ?_ (snT_pos (oky z List.mem_cons_self)) hw2.2 rfl
      · rw [Nat.add_comm, List.getElem?_cons_succ]; exact hx
      · refine Gw.tr ?_ hw2.Gw
        exact fun j q1 q2 q3 q4 => va_up_ne _ _ q2
      · rw [hW2.2.2.1, Nat.zero_add]
