section LISTOPS3
variable {f : Nat → AC} {k e cap d : Nat} {L : List Nat} {xs : List Nat}
theorem j_fastRemove {i : Nat} (hd : 1 ≤ d) (h : LsAt L f k e cap xs) (hi : i < xs.length) : AM yJx4a65c_fastRemove_b59b0 cJx4a65c_fastRemove_b59b0 4 none d 0 0 [.ref k, .ref e, .int (iI i)] L f (fun r L' f' => r = none ∧ L' = L ∧ LsAt L f' k e cap (xs.eraseIdx i) ∧ FqL k e L f L f') := by
  have hke := h.ke
  obtain ⟨⟨m, gr, hf, hfe, hx, hel⟩, ⟨hk, he⟩, hc, hc40, h17⟩ := h
  refine AM.of (by decide +kernel) (by simp [Value.category]) (Nat.le_of_ble_eq_true rfl) false (fun h => by cases h) (fun X C => ?_)
  have fin : ∀ g2 : Nat → Option Nat, (∀ j y, (xs.eraseIdx i)[j]? = some y → g2 j = some y) → (∀ j y, g2 j = some y → ∃ q, gr q = some y) → X 0 0 L (ls f k e (m + 1) xs.length cap g2) 34 [some (.ref k), some (.ref e), some (.int (iI i)), some (.int (iI ((xs.length - 1 : Nat) : Int)))] [] := by
    intro g2 hg1 hg2
    refine C.aload_n dJx4a65c_fastRemove_b59b0_34 rfl ?_
    refine C.aload_n dJx4a65c_fastRemove_b59b0_35 rfl ?_
    refine C.iload_n dJx4a65c_fastRemove_b59b0_36 rfl ?_
    refine C.dupx1 dJx4a65c_fastRemove_b59b0_37 rfl rfl ?_
    refine C.putf pf_Jx4a65c_48 dJx4a65c_fastRemove_b59b0_38 hk (ls_k hke) rfl rfl (Nat.le_of_ble_eq_true rfl) ?_
    show X 0 0 L (va_up (ls f k e (m + 1) xs.length cap g2) k (aL (m + 1) e ((xs.length - 1 : Nat) : Int))) 41 _ _
    rw [ls_pk hke]
    refine C.null dJx4a65c_fastRemove_b59b0_41 ?_
    refine C.aastN (i := xs.length - 1) dJx4a65c_fastRemove_b59b0_42 he ls_e rfl (by omega) (by omega) ?_
    rw [ls_pe]
    have hlen : (xs.eraseIdx i).length = xs.length - 1 := by rw [List.length_eraseIdx]; rw [if_pos hi]
    refine C.vret rfl dJx4a65c_fastRemove_b59b0_43 (Nat.le_refl _) (Nat.le_refl _) ⟨rfl, rfl, ⟨⟨m + 1, va_up g2 (xs.length - 1) none, ?_, ls_e, fun j y hj => ?_, fun j y hj => ?_⟩, ⟨hk, he⟩, by omega, hc40, h17⟩, ⟨fun q hq => hq, fun q hq h1 h2 => ?_⟩⟩
    · rw [hlen]
      exact ls_k hke
    · have := (List.getElem?_eq_some_iff.mp hj).1
      rw [va_up_ne _ _ (by omega)]
      exact hg1 j y hj
    · by_cases hjl : j = xs.length - 1
      · subst hjl
        rw [va_up_self] at hj
        cases hj
      · rw [va_up_ne _ _ hjl] at hj
        obtain ⟨q, hq⟩ := hg2 j y hj
        obtain ⟨y1, fs2, y2⟩ := hel q y hq
        have n1 : y ≠ k := fun h => aL_ne6 (by rw [← hf, ← h]; exact y2)
        have n2 : y ≠ e := fun h => by rw [h, hfe] at y2; cases y2
        exact ⟨y1, fs2, (ls_o n1 n2).trans y2⟩
    · by_cases hqe : q = e
      · have h3 := h17.mpr (hqe ▸ h2 hqe)
        omega
      · exact ls_o h1 hqe
  refine C.aload_n dJx4a65c_fastRemove_b59b0_0 rfl ?_
  refine C.dup dJx4a65c_fastRemove_b59b0_1 rfl ?_
  refine C.getMod dJx4a65c_fastRemove_b59b0_2 hk hf rfl ?_
  refine C.ic dJx4a65c_fastRemove_b59b0_5 ?_
  refine C.iaddI dJx4a65c_fastRemove_b59b0_6 ?_
  refine C.putMod dJx4a65c_fastRemove_b59b0_7 hk hf (Nat.le_of_ble_eq_true rfl) ?_
  show X 0 0 L (va_up f k (aL (m + 1) e xs.length)) 10 _ _
  have hls : va_up f k (aL (m + 1) e xs.length) = ls f k e (m + 1) xs.length cap gr := by
    unfold ls
    rw [up_id (va_up f k (aL (m + 1) e xs.length)) e _ ((va_up_ne _ _ (Ne.symm hke)).trans hfe)]
  rw [hls]
  refine C.aload_n dJx4a65c_fastRemove_b59b0_10 rfl ?_
  refine C.getf gf_Jx4a65c_48 dJx4a65c_fastRemove_b59b0_11 hk (ls_k hke) rfl ?_
  refine C.ic dJx4a65c_fastRemove_b59b0_14 ?_
  refine C.isubI dJx4a65c_fastRemove_b59b0_15 ?_
  refine C.topI (b := ((xs.length - 1 : Nat) : Int)) (by omega) ?_
  refine C.dup dJx4a65c_fastRemove_b59b0_16 rfl ?_
  refine C.istore_n dJx4a65c_fastRemove_b59b0_17 (by decide) rfl ?_
  refine C.iload_n dJx4a65c_fastRemove_b59b0_18 rfl ?_
  have herase : ∀ j, (xs.eraseIdx i)[j]? = if j < i then xs[j]? else xs[j + 1]? := fun j => List.getElem?_eraseIdx
  refine C.icmp_leI (tgt := 34) dJx4a65c_fastRemove_b59b0_19 (by decide) (by omega) (by omega) (fun hle => ?_) (fun hgt => ?_)
  · refine fin gr (fun j y hj => ?_) (fun j y hj => ⟨j, hj⟩)
    have hjl := (List.getElem?_eq_some_iff.mp hj).1
    rw [List.length_eraseIdx, if_pos hi] at hjl
    rw [herase, if_pos (by omega)] at hj
    exact hx j y hj
  · refine C.aload_n dJx4a65c_fastRemove_b59b0_22 rfl ?_
    refine C.iload_n dJx4a65c_fastRemove_b59b0_23 rfl ?_
    refine C.ic dJx4a65c_fastRemove_b59b0_24 ?_
    refine C.iaddI dJx4a65c_fastRemove_b59b0_25 ?_
    refine C.aload_n dJx4a65c_fastRemove_b59b0_26 rfl ?_
    refine C.iload_n dJx4a65c_fastRemove_b59b0_27 rfl ?_
    refine C.iload_n dJx4a65c_fastRemove_b59b0_28 rfl ?_
    refine C.iload_n dJx4a65c_fastRemove_b59b0_29 rfl ?_
    refine C.isubI dJx4a65c_fastRemove_b59b0_30 ?_
    refine C.copyQ (g1 := gr) (g2 := gr) (sp := i + 1) (dp := i) (n := xs.length - 1 - i) (n1 := cap) (n2 := cap) (fun j hj y hy => ?_) (om_wsL_law0_r27 _ (List.mem_of_getElem? (i := 22) rfl)) dJx4a65c_fastRemove_b59b0_31 he ls_e he ls_e rfl rfl (by omega) (by omega) (by omega) (by omega) (by omega) (by omega) (by omega) hd (Nat.le_of_ble_eq_true rfl) ?_
    · obtain ⟨y1, fs2, y2⟩ := hel _ y hy
      have n1 : y ≠ k := fun h => aL_ne6 (by rw [← hf, ← h]; exact y2)
      have n2 : y ≠ e := fun h => by rw [h, hfe] at y2; cases y2
      exact ⟨y1, fs2, (ls_o n1 n2).trans y2⟩
    rw [ls_pe]
    refine fin _ (fun j y hj => ?_) (fun j y hj => ?_)
    · have hjl := (List.getElem?_eq_some_iff.mp hj).1
      rw [List.length_eraseIdx, if_pos hi] at hjl
      rw [herase] at hj
      unfold va_cpy
      by_cases hji : j < i
      · rw [if_pos hji] at hj
        rw [if_neg (by omega)]
        exact hx j y hj
      · rw [if_neg hji] at hj
        rw [if_pos (by omega), show i + 1 + (j - i) = j + 1 by omega]
        exact hx _ y hj
    · unfold va_cpy at hj
      split at hj
      · exact ⟨_, hj⟩
      · exact ⟨_, hj⟩
theorem l_remove {i : Nat} (hd : 2 ≤ d) (h : LsAt L f k e cap xs) (hi : i < xs.length) : AM yJx4a65c_remove_915e3 cJx4a65c_remove_915e3 4 (some (.object "java/lang/Object")) d 0 0 [.ref k, .int (iI i)] L f (fun r L' f' => (∃ y, r = some (.ref y)) ∧ L' = L ∧ LsAt L f' k e cap (xs.eraseIdx i) ∧ FqL k e L f L f') := by
  have h0 := h
  obtain ⟨⟨m, gr, hf, hfe, hx, hel⟩, ⟨hk, he⟩, hc, hc40, h17⟩ := h
  have hgi := hx i _ (List.getElem?_eq_getElem hi)
  refine AM.of (by decide +kernel) (by simp [Value.category]) (Nat.le_of_ble_eq_true rfl) false (fun h => by cases h) (fun X C => ?_)
  refine C.iload_n dJx4a65c_remove_915e3_0 rfl ?_
  refine C.aload_n dJx4a65c_remove_915e3_1 rfl ?_
  refine C.getf gf_Jx4a65c_48 dJx4a65c_remove_915e3_2 hk hf rfl ?_
  refine C.callS (j_checkIndex (d := d - 1) (i := i) (n := xs.length) (by omega) ⟨by omega, by omega, by omega⟩) cw_J15_checkIndex_7cf53 ml_Jx4a65c_118 sm_J15_checkIndex_7cf53 dJx4a65c_remove_915e3_5 rfl (by omega) (Nat.le_refl _) (Nat.le_refl _) (Nat.le_of_ble_eq_true rfl) rfl (fun r L9 f9 h9 => ?_)
  obtain ⟨rfl, hL9, hf9⟩ := h9
  rw [hL9, hf9]
  clear hL9 hf9
  refine C.pop dJx4a65c_remove_915e3_8 rfl ?_
  refine C.aload_n dJx4a65c_remove_915e3_9 rfl ?_
  refine C.getf gf_Jx4a65c_9 dJx4a65c_remove_915e3_10 hk hf rfl ?_
  refine C.astore_n dJx4a65c_remove_915e3_13 (by decide) rfl ?_
  refine C.aload_n dJx4a65c_remove_915e3_14 rfl ?_
  refine C.iload_n dJx4a65c_remove_915e3_15 rfl ?_
  refine C.aald5 dJx4a65c_remove_915e3_16 he hfe (iI_in (by omega) (by omega) (show cap < 2147483648 by omega)) ?_
  rw [iI_clamp (by omega), Int.toNat_natCast, hgi]
  refine C.astore_n dJx4a65c_remove_915e3_17 (by decide) rfl ?_
  refine C.aload_n dJx4a65c_remove_915e3_18 rfl ?_
  refine C.aload_n dJx4a65c_remove_915e3_19 rfl ?_
  refine C.iload_n dJx4a65c_remove_915e3_20 rfl ?_
  refine C.callV (j_fastRemove (d := d - 1) (by omega) h0 hi) cw_Jx4a65c_fastRemove_b59b0 ml_Jx4a65c_144 im_Jx4a65c_fastRemove_b59b0 sl_Jx4a65c_fastRemove_b59b0 dJx4a65c_remove_915e3_21 hk hf rfl rfl (by omega) (Nat.le_refl _) (Nat.le_refl _) (Nat.le_of_ble_eq_true rfl) rfl (fun r L9 f9 h9 => ?_)
  obtain ⟨rfl, rfl, q1, q2⟩ := h9
  refine C.aload_n dJx4a65c_remove_915e3_24 rfl ?_
  exact C.aret rfl (Or.inl ⟨_, rfl⟩) dJx4a65c_remove_915e3_25 (Nat.le_refl _) (Nat.le_refl _) ⟨⟨_, rfl⟩, rfl, q1, q2⟩
theorem j_rangeCheck {i : Nat} (h : LsAt L f k e cap xs) (hi : i ≤ xs.length) : AM yJx4a65c_rangeCheckForAdd_d00df cJx4a65c_rangeCheckForAdd_d00df 2 none d 0 0 [.ref k, .int (iI i)] L f (SP none L f) := by
  obtain ⟨⟨m, gr, hf, hfe, hx, hel⟩, ⟨hk, he⟩, hc, hc40, h17⟩ := h
  refine AM.of (by decide +kernel) (by simp [Value.category]) (Nat.le_of_ble_eq_true rfl) false (fun h => by cases h) (fun X C => ?_)
  refine C.iload_n dJx4a65c_rangeCheckForAdd_d00df_0 rfl ?_
  refine C.aload_n dJx4a65c_rangeCheckForAdd_d00df_1 rfl ?_
  refine C.getf gf_Jx4a65c_48 dJx4a65c_rangeCheckForAdd_d00df_2 hk hf rfl ?_
  refine C.icmp_gtI (tgt := 12) dJx4a65c_rangeCheckForAdd_d00df_5 (by decide) (by omega) (by omega) (fun h => absurd h (by omega)) (fun _ => ?_)
  refine C.iload_n dJx4a65c_rangeCheckForAdd_d00df_8 rfl ?_
  refine C.if_geI (tgt := 25) dJx4a65c_rangeCheckForAdd_d00df_9 (by decide) (by omega) (fun _ => ?_) (fun h => absurd h (by omega))
  exact C.vret rfl dJx4a65c_rangeCheckForAdd_d00df_25 (Nat.le_refl _) (Nat.le_refl _) ⟨rfl, rfl, rfl⟩
/-- v at the place i, those behind it one place on -/
def insL (xs : List Nat) (i v : Nat) : List Nat := xs.take i ++ v :: xs.drop i
theorem insL_get {xs : List Nat} {i v : Nat} (hi : i ≤ xs.length) (j : Nat) : (insL xs i v)[j]? = if j < i then xs[j]? else if j = i then some v else xs[j - 1]? := by
  unfold insL
  by_cases h1 : j < i
  · rw [if_pos h1, List.getElem?_append_left (by rw [List.length_take]; omega), List.getElem?_take_of_lt h1]
  · rw [if_neg h1, List.getElem?_append_right (by rw [List.length_take]; omega), List.length_take, Nat.min_eq_left hi]
    by_cases h2 : j = i
    · subst h2
      rw [if_pos rfl, Nat.sub_self]
      rfl
    · rw [if_neg h2, show j - i = (j - i - 1) + 1 by omega, List.getElem?_cons_succ, List.getElem?_drop]
      congr 1
      omega
theorem insL_len {xs : List Nat} {i v : Nat} (hi : i ≤ xs.length) : (insL xs i v).length = xs.length + 1 := by
  unfold insL
  rw [List.length_append, List.length_take, List.length_cons, List.length_drop]
  omega
theorem l_addAt {i v : Nat} {fs : List Value} (hd : 5 ≤ d) (h : LsAt L f k e cap xs) (hi : i ≤ xs.length) (hl : xs.length < 24) (hv : v ∈ L) (hfv : f v = .inr (6, fs)) : AM yJx4a65c_add_7a177 cJx4a65c_add_7a177 5 none d 1 40 [.ref k, .int (iI i), .ref v] L f (AdPo L f k e (insL xs i v) none) := by
  have hke := h.ke
  have h0 := h
  obtain ⟨⟨m, gr, hf, hfe, hx, hel⟩, ⟨hk, he⟩, hc, hc40, h17⟩ := h
  have hvk : v ≠ k := fun h => aL_ne6 (by rw [← hf, ← h]; exact hfv)
  have hve : v ≠ e := fun h => by rw [h, hfe] at hfv; cases hfv
  have hlen := insL_len (v := v) hi
  -- the row behind the copy and the store
  have hrow : ∀ g2 : Nat → Option Nat, (∀ j y, xs[j]? = some y → g2 j = some y) → ∀ j y, (insL xs i v)[j]? = some y → va_up (va_cpy g2 g2 i (i + 1) (xs.length - i)) i (some v) j = some y := by
    intro g2 hg j y hj
    have hjl := (List.getElem?_eq_some_iff.mp hj).1
    rw [insL_get hi] at hj
    by_cases h1 : j < i
    · rw [if_pos h1] at hj
      rw [va_up_ne _ _ (by omega)]
      unfold va_cpy
      rw [if_neg (by omega)]
      exact hg j y hj
    · rw [if_neg h1] at hj
      by_cases h2 : j = i
      · rw [if_pos h2] at hj
        rw [h2, va_up_self]
        exact hj
      · rw [if_neg h2] at hj
        rw [va_up_ne _ _ h2]
        unfold va_cpy
        rw [if_pos (by omega), show i + (j - (i + 1)) = j - 1 by omega]
        exact hg _ y hj
  refine AM.of (by decide +kernel) (by simp [Value.category]) (Nat.le_of_ble_eq_true rfl) false (fun h => by cases h) (fun X C => ?_)
  -- from 38 on: the row q in the world f2
  have fin : ∀ (L2 : List Nat) (f2 : Nat → AC) (q c2 : Nat) (g2 : Nat → Option Nat) (ce sl : Nat), ce ≤ 1 → sl ≤ 40 → f2 k = aL (m + 1) q xs.length → f2 q = aQ c2 g2 → k ∈ L2 → q ∈ L2 → v ∈ L2 → f2 v = .inr (6, fs) → (∀ j y, xs[j]? = some y → g2 j = some y) → (∀ j y, g2 j = some y → y ∈ L2 ∧ ∃ fs, f2 y = .inr (6, fs)) → xs.length < c2 → c2 ≤ 40 → q ≠ 17 → FqL k e L f L2 f2 → (∀ p ∈ L, p ≠ q ∨ q = e) → (q = e ∨ (q ∉ L ∧ 2000 ≤ q)) → X ce sl L2 f2 38 [some (.ref k), some (.int (iI i)), some (.ref v), some (.int (iI xs.length)), some (.ref q)] [] := by
    intro L2 f2 q c2 g2 ce sl hce hsl p1 p2 p3 p4 p5 p6 p7 p8 p9 p10 p11 p12 p13 p14
    have hkq : k ≠ q := fun h => by rw [h, p2] at p1; cases p1
    refine C.aload dJx4a65c_add_7a177_38 rfl ?_
    refine C.iload_n dJx4a65c_add_7a177_40 rfl ?_
    refine C.aload dJx4a65c_add_7a177_41 rfl ?_
    refine C.iload_n dJx4a65c_add_7a177_43 rfl ?_
    refine C.ic dJx4a65c_add_7a177_44 ?_
    refine C.iaddI dJx4a65c_add_7a177_45 ?_
    refine C.iload_n dJx4a65c_add_7a177_46 rfl ?_
    refine C.iload_n dJx4a65c_add_7a177_47 rfl ?_
    refine C.isubI dJx4a65c_add_7a177_48 ?_
    refine C.copyQ (g1 := g2) (g2 := g2) (sp := i) (dp := i + 1) (n := xs.length - i) (n1 := c2) (n2 := c2) (fun j hj y hy => p8 _ y hy) (om_wsL_law0_r27 _ (List.mem_of_getElem? (i := 22) rfl)) dJx4a65c_add_7a177_49 p4 p2 p4 p2 rfl rfl (by omega) (by omega) (by omega) (by omega) (by omega) (by omega) (by omega) (by omega) (Nat.le_of_ble_eq_true rfl) ?_
    have hvq : v ≠ q := fun h => by rw [h, p2] at p6; cases p6
    refine C.aload dJx4a65c_add_7a177_52 rfl ?_
    refine C.iload_n dJx4a65c_add_7a177_54 rfl ?_
    refine C.aload_n dJx4a65c_add_7a177_55 rfl ?_
    refine C.aast5 (i := i) (fs := fs) dJx4a65c_add_7a177_56 p4 (va_up_self _ _ _) p5 ((va_up_ne _ _ hvq).trans p6) rfl (by omega) (by omega) ?_
    rw [up_up]
    refine C.aload_n dJx4a65c_add_7a177_57 rfl ?_
    refine C.iload_n dJx4a65c_add_7a177_58 rfl ?_
    refine C.ic dJx4a65c_add_7a177_59 ?_
    refine C.iaddI dJx4a65c_add_7a177_60 ?_
    refine C.putf pf_Jx4a65c_48 dJx4a65c_add_7a177_61 p3 ((va_up_ne _ _ hkq).trans p1) rfl rfl (Nat.le_of_ble_eq_true rfl) ?_
    refine C.vret rfl dJx4a65c_add_7a177_64 hce hsl ⟨rfl, q, c2, ⟨⟨m + 1, va_up (va_cpy g2 g2 i (i + 1) (xs.length - i)) i (some v), ?_, (va_up_ne _ _ (Ne.symm hkq)).trans (va_up_self _ _ _), hrow g2 p7, fun j y hj => ?_⟩, ⟨p3, p4⟩, by omega, p10, ⟨fun h => by omega, fun h => absurd h p11⟩⟩, ⟨p12.1, fun w hw h1 h2 => ?_⟩, p14⟩
    · rw [va_up_self, hlen]
      rfl
    · have hyL : y ∈ L2 ∧ ∃ fs, f2 y = .inr (6, fs) := by
        by_cases hji : j = i
        · rw [hji, va_up_self] at hj
          obtain rfl := Option.some.inj hj
          exact ⟨p5, fs, p6⟩
        · rw [va_up_ne _ _ hji] at hj
          unfold va_cpy at hj
          split at hj
          · exact p8 _ y hj
          · exact p8 _ y hj
      obtain ⟨y1, fs2, y2⟩ := hyL
      have n1 : y ≠ k := fun h => aL_ne6 (by rw [← p1, ← h]; exact y2)
      have n2 : y ≠ q := fun h => by rw [h, p2] at y2; cases y2
      exact ⟨y1, fs2, by rw [va_up_ne _ _ n1, va_up_ne _ _ n2]; exact y2⟩
    · rw [va_up_ne _ _ h1]
      by_cases hwq : w = q
      · rcases p13 w hw with h | h
        · exact absurd hwq h
        · have := h2 (hwq.trans h)
          exact absurd (hwq ▸ this) p11
      · rw [va_up_ne _ _ hwq]
        exact p12.2 w hw h1 h2
  refine C.aload_n dJx4a65c_add_7a177_0 rfl ?_
  refine C.iload_n dJx4a65c_add_7a177_1 rfl ?_
  refine C.callV (j_rangeCheck (d := d - 1) h0 hi) cw_Jx4a65c_rangeCheckForAdd_d00df ml_Jx4a65c_135 im_Jx4a65c_rangeCheckForAdd_d00df sl_Jx4a65c_rangeCheckForAdd_d00df dJx4a65c_add_7a177_2 hk hf rfl rfl (by omega) (Nat.zero_le _) (Nat.zero_le _) (Nat.le_of_ble_eq_true rfl) rfl (fun r L9 f9 h9 => ?_)
  obtain ⟨rfl, hL9, hf9⟩ := h9
  rw [hL9, hf9]
  clear hL9 hf9
  refine C.aload_n dJx4a65c_add_7a177_5 rfl ?_
  refine C.dup dJx4a65c_add_7a177_6 rfl ?_
  refine C.getMod dJx4a65c_add_7a177_7 hk hf rfl ?_
  refine C.ic dJx4a65c_add_7a177_10 ?_
  refine C.iaddI dJx4a65c_add_7a177_11 ?_
  refine C.putMod dJx4a65c_add_7a177_12 hk hf (Nat.le_of_ble_eq_true rfl) ?_
  show X 0 0 L (va_up f k (aL (m + 1) e xs.length)) 15 _ _
  have hf1 : va_up f k (aL (m + 1) e xs.length) k = aL (m + 1) e xs.length := va_up_self _ _ _
  have hfe1 : va_up f k (aL (m + 1) e xs.length) e = aQ cap gr := (va_up_ne _ _ (Ne.symm hke)).trans hfe
  have hfv1 : va_up f k (aL (m + 1) e xs.length) v = .inr (6, fs) := (va_up_ne _ _ hvk).trans hfv
  have hel1 : ∀ j y, gr j = some y → y ∈ L ∧ ∃ fs, va_up f k (aL (m + 1) e xs.length) y = .inr (6, fs) := fun j y hj => by
    obtain ⟨y1, fs2, y2⟩ := hel j y hj
    have n1 : y ≠ k := fun h => aL_ne6 (by rw [← hf, ← h]; exact y2)
    exact ⟨y1, fs2, (va_up_ne _ _ n1).trans y2⟩
  have hfr1 : FqL k e L f L (va_up f k (aL (m + 1) e xs.length)) := ⟨fun q hq => hq, fun q hq h1 _ => va_up_ne _ _ h1⟩
  generalize va_up f k (aL (m + 1) e xs.length) = f1 at *
  refine C.aload_n dJx4a65c_add_7a177_15 rfl ?_
  refine C.getf gf_Jx4a65c_48 dJx4a65c_add_7a177_16 hk hf1 rfl ?_
  refine C.dup dJx4a65c_add_7a177_19 rfl ?_
  refine C.istore_n dJx4a65c_add_7a177_20 (by decide) rfl ?_
  refine C.aload_n dJx4a65c_add_7a177_21 rfl ?_
  refine C.getf gf_Jx4a65c_9 dJx4a65c_add_7a177_22 hk hf1 rfl ?_
  refine C.dup dJx4a65c_add_7a177_25 rfl ?_
  refine C.astore dJx4a65c_add_7a177_26 (by decide) rfl ?_
  refine C.alenI dJx4a65c_add_7a177_28 he hfe1 (by decide) ?_
  refine C.icmp_neI (tgt := 38) dJx4a65c_add_7a177_29 (by decide) (by omega) (by omega) (fun hne => ?_) (fun heq => ?_)
  · exact fin L f1 e cap gr 0 0 (by omega) (by omega) hf1 hfe1 hk he hv hfv1 hx hel1 (by omega) hc40 (fun h => by have := h17.mpr h; omega) hfr1 (fun p _ => Or.inr rfl) (Or.inl rfl)
  · have hnc : ncap cap ≤ 40 ∧ cap < ncap cap ∧ ¬ ncap cap = 0 := by unfold ncap; split <;> omega
    have hf2 : f1 k = aL (m + 1) e cap := by rw [hf1, show (xs.length : Int) = cap by omega]
    refine C.aload_n dJx4a65c_add_7a177_32 rfl ?_
    refine C.callV (j_grow (d := d - 1) (by omega) hk he hf2 hfe1 h17.mp hel1 hc40) cw_Jx4a65c_grow_d5877 ml_Jx4a65c_129 im_Jx4a65c_grow_d5877 sl_Jx4a65c_grow_d5877 dJx4a65c_add_7a177_33 hk hf1 rfl rfl (by omega) (Nat.le_refl _) (by omega) (Nat.le_of_ble_eq_true rfl) rfl (fun r L9 f9 h9 => ?_)
    obtain ⟨e', q1, q2, rfl, rfl, rfl⟩ := h9
    have hke' : e' ≠ k := fun h => q2 (h ▸ hk)
    have hve' : v ≠ e' := fun h => q2 (h ▸ hv)
    refine C.astore dJx4a65c_add_7a177_36 (by decide) rfl ?_
    refine fin (L ++ [e']) _ e' (ncap cap) (va_cpy gr (fun _ => none) 0 0 cap) _ _ (Nat.le_refl _) (by omega) ?_ ((va_up_ne _ _ hke').trans (va_up_self _ _ _)) (List.mem_append_left _ hk) (List.mem_append_right _ List.mem_cons_self) (List.mem_append_left _ hv) ((va_up_ne _ _ hvk).trans ((va_up_ne _ _ hve').trans hfv1)) (fun j y hj => ?_) (fun j y hj => ?_) (by omega) hnc.1 (by omega) ⟨fun q hq => List.mem_append_left _ hq, fun q hq h1 h2 => ?_⟩ (fun p hp => Or.inl (fun h => q2 (h ▸ hp))) (Or.inr ⟨q2, q1⟩)
    · rw [va_up_self, show (xs.length : Int) = cap by omega]
    · have hjl := (List.getElem?_eq_some_iff.mp hj).1
      unfold va_cpy
      rw [if_pos ⟨Nat.zero_le _, by omega⟩, Nat.sub_zero, Nat.zero_add]
      exact hx j y hj
    · unfold va_cpy at hj
      split at hj
      · rw [Nat.sub_zero, Nat.zero_add] at hj
        obtain ⟨y1, fs2, y2⟩ := hel1 j y hj
        have n1 : y ≠ k := fun h => aL_ne6 (by rw [← hf1, ← h]; exact y2)
        have n2 : y ≠ e' := fun h => q2 (h ▸ y1)
        exact ⟨List.mem_append_left _ y1, fs2, by rw [va_up_ne _ _ n1, va_up_ne _ _ n2]; exact y2⟩
      · cases hj
    · have n2 : q ≠ e' := fun h => q2 (h ▸ hq)
      rw [va_up_ne _ _ h1, va_up_ne _ _ n2]
      exact hfr1.2 q hq h1 h2
end LISTOPS3
