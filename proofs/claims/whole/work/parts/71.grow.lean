theorem half_iI {n : Nat} (h : n < 1000) : iI (n : Int) >>> (iI 1 &&& 31) = iI ((n / 2 : Nat) : Int) := by
  have h1 := shr_div (cs := (n : Int)) ⟨by omega, by omega⟩ (n := 1) (by omega)
  rw [show iI (((1 : Nat) : Nat) : Int) = iI 1 from rfl] at h1
  apply Int32.toInt.inj
  rw [h1, iI_toInt (by omega)]
  omega
section GROW
variable {f : Nat → AC} {k e cap d : Nat} {m n : Int} {gr : Nat → Option Nat} {L : List Nat}
/-- the room that a full row of cap gets -/
def ncap (cap : Nat) : Nat := if cap = 0 then 10 else cap + max 1 (cap / 2)
theorem j_newLength (hd : 1 ≤ d) (h1 : cap < 1000) (h0 : 0 < cap) : AM yJ8_newLength_cabcc cJ8_newLength_cabcc 4 (some .int) d 0 0 [.int (iI cap), .int (iI 1), .int (iI ((cap / 2 : Nat) : Int))] L f (SP (some (.int (iI (ncap cap)))) L f) := by
  have hn : ((ncap cap : Nat) : Int) = (cap : Int) + (if (1 : Int) < ((cap / 2 : Nat) : Int) then ((cap / 2 : Nat) : Int) else 1) := by
    unfold ncap
    rw [if_neg (by omega)]
    split <;> omega
  have hn2 : ncap cap < 3000 := by unfold ncap; rw [if_neg (by omega)]; omega
  refine AM.of (by decide +kernel) (by simp [Value.category]) (Nat.le_of_ble_eq_true rfl) false (fun h => by cases h) (fun X C => ?_)
  refine C.iload_n dJ8_newLength_cabcc_0 rfl ?_
  refine C.iload_n dJ8_newLength_cabcc_1 rfl ?_
  refine C.iload_n dJ8_newLength_cabcc_2 rfl ?_
  refine C.mmax (om_wsL_law0_r18 _ (List.mem_of_getElem? (i := 5) rfl)) (by omega) (by omega) hd (Nat.le_refl _) (Nat.le_refl _) (Nat.le_of_ble_eq_true rfl) dJ8_newLength_cabcc_3 ?_
  refine C.iaddI dJ8_newLength_cabcc_6 ?_
  refine C.topI (b := (ncap cap : Int)) hn.symm ?_
  refine C.istore_n dJ8_newLength_cabcc_7 (by decide) rfl ?_
  refine C.ic dJ8_newLength_cabcc_8 ?_
  refine C.iload_n dJ8_newLength_cabcc_9 rfl ?_
  refine C.icmp_geI (tgt := 21) dJ8_newLength_cabcc_10 (by decide) (by omega) (by omega) (fun hc10 => absurd hc10 (by omega)) (fun hc10 => ?_)
  refine C.iload_n dJ8_newLength_cabcc_13 rfl ?_
  refine C.ldz (n := 2147483639) dJ8_newLength_cabcc_14 kc_J8_200 (by decide) ?_
  refine C.icmp_gtI (tgt := 21) dJ8_newLength_cabcc_16 (by decide) (by omega) (by omega) (fun hc16 => absurd hc16 (by omega)) (fun hc16 => ?_)
  refine C.iload_n dJ8_newLength_cabcc_19 rfl ?_
  refine C.retI rfl (by first | rfl | (exact (iI_bool (by first | exact Or.inl rfl | exact Or.inr rfl | assumption)).1)) dJ8_newLength_cabcc_20 (Nat.le_refl _) (Nat.le_refl _) ⟨rfl, rfl, rfl⟩
  skip
theorem up_up {f : Nat → AC} {q : Nat} {x y : AC} : va_up (va_up f q x) q y = va_up f q y := by
  funext j
  unfold va_up
  split <;> rfl
/-- a new row with what was in the old one -/
def CpPo (L : List Nat) (f : Nat → AC) (nc cap : Nat) (gr : Nat → Option Nat) : AT := fun r L' f' => ∃ e', 2000 ≤ e' ∧ e' ∉ L ∧ r = some (.ref e') ∧ L' = L ++ [e'] ∧ f' = va_up f e' (aQ nc (va_cpy gr (fun _ => none) 0 0 cap))
theorem j_copyOf3 {nc : Nat} (h0 : cap ≠ 0) (hd : 1 ≤ d) (he : e ∈ L) (hfe : f e = aQ cap gr) (hel : ∀ i y, gr i = some y → y ∈ L ∧ ∃ fs, f y = .inr (6, fs)) (h1 : cap ≤ nc) (h2 : nc < 3000) : AM yJ7_copyOf_6403c cJ7_copyOf_6403c 4 (some (.array (.object "java/lang/Object"))) d 1 nc [.ref e, .int (iI nc), .ref 1300] L f (CpPo L f nc cap gr) := by
  refine AM.of (by decide +kernel) (by simp [Value.category]) (Nat.le_of_ble_eq_true rfl) false (fun h => by cases h) (fun X C => ?_)
  refine C.aload_n dJ7_copyOf_6403c_0 rfl ?_
  refine C.ldcC dJ7_copyOf_6403c_1 (om_wsL_law0_r18 _ (List.mem_of_getElem? (i := 21) rfl)) ?_
  refine C.acmp_neF (tgt := 13) dJ7_copyOf_6403c_3 (by decide) ?_
  refine C.iload_n dJ7_copyOf_6403c_6 rfl ?_
  refine C.newQ (t := 5) (cl := "java/lang/Object") (N := nc) (fun _ => rfl) (fun h => h.2.2.2.2.2.2.2.2.1.2) (om_wsL_law0_r18 _ (List.mem_of_getElem? (i := 22) rfl)) rfl (by omega) dJ7_copyOf_6403c_7 (Nat.le_refl _) (by omega) (fun e' h1' h2' => ?_)
  have hne : e ≠ e' := fun h => h2' (h ▸ he)
  refine C.goto (tgt := 24) dJ7_copyOf_6403c_10 (by decide) ?_
  refine C.astore_n dJ7_copyOf_6403c_24 (by decide) rfl ?_
  refine C.aload_n dJ7_copyOf_6403c_25 rfl ?_
  refine C.ic dJ7_copyOf_6403c_26 ?_
  refine C.aload_n dJ7_copyOf_6403c_27 rfl ?_
  refine C.ic dJ7_copyOf_6403c_28 ?_
  refine C.aload_n dJ7_copyOf_6403c_29 rfl ?_
  refine C.alenI dJ7_copyOf_6403c_30 (List.mem_append_left _ he) ((va_up_ne _ _ hne).trans hfe) (by decide) ?_
  refine C.iload_n dJ7_copyOf_6403c_31 rfl ?_
  refine C.mmin (om_wsL_law0_r18 _ (List.mem_of_getElem? (i := 23) rfl)) (by omega) (by omega) hd (Nat.le_refl _) (by omega) (Nat.le_of_ble_eq_true rfl) dJ7_copyOf_6403c_32 ?_
  refine C.topI (b := (cap : Int)) (by split <;> omega) ?_
  refine C.copyQ (g1 := gr) (g2 := fun _ => none) (sp := 0) (dp := 0) (n := cap) (n1 := cap) (n2 := nc) (fun i hi y hy => ?_) (om_wsL_law0_r19 _ (List.mem_of_getElem? (i := 0) rfl)) dJ7_copyOf_6403c_35 (List.mem_append_left _ he) ((va_up_ne _ _ hne).trans hfe) (List.mem_append_right _ List.mem_cons_self) (va_up_self _ _ _) rfl rfl rfl (by omega) (by omega) (by omega) (by omega) h0 (by omega) hd (Nat.le_of_ble_eq_true rfl) ?_
  · obtain ⟨q1, fs, q2⟩ := hel _ y hy
    exact ⟨List.mem_append_left _ q1, fs, (va_up_ne _ _ (fun (h : y = e') => h2' (h ▸ q1))).trans q2⟩
  rw [up_up]
  refine C.aload_n dJ7_copyOf_6403c_38 rfl ?_
  exact C.aret rfl (Or.inr ⟨_, rfl⟩) dJ7_copyOf_6403c_39 (Nat.le_refl _) (by omega) ⟨e', h1', h2', rfl, rfl, rfl⟩
theorem j_copyOf {nc : Nat} (h0 : cap ≠ 0) (hd : 2 ≤ d) (he : e ∈ L) (hfe : f e = aQ cap gr) (hel : ∀ i y, gr i = some y → y ∈ L ∧ ∃ fs, f y = .inr (6, fs)) (h1 : cap ≤ nc) (h2 : nc < 3000) : AM yJ7_copyOf_1904c cJ7_copyOf_1904c 2 (some (.array (.object "java/lang/Object"))) d 1 nc [.ref e, .int (iI nc)] L f (CpPo L f nc cap gr) := by
  refine AM.of (by decide +kernel) (by simp [Value.category]) (Nat.le_of_ble_eq_true rfl) false (fun h => by cases h) (fun X C => ?_)
  refine C.aload_n dJ7_copyOf_1904c_0 rfl ?_
  refine C.iload_n dJ7_copyOf_1904c_1 rfl ?_
  refine C.aload_n dJ7_copyOf_1904c_2 rfl ?_
  refine C.getC dJ7_copyOf_1904c_3 (om_wsL_law0_r18 _ (List.mem_of_getElem? (i := 14) rfl)) (by omega) (Nat.le_of_ble_eq_true rfl) he hfe h0 ?_
  refine C.callS (j_copyOf3 (d := d - 1) (nc := nc) h0 (by omega) he hfe hel h1 h2) cw_J7_copyOf_6403c ml_J7_300 sm_J7_copyOf_6403c dJ7_copyOf_1904c_6 rfl (by omega) (Nat.le_refl _) (by omega) (Nat.le_of_ble_eq_true rfl) rfl (fun r L9 f9 h9 => ?_)
  obtain ⟨e', q1, q2, rfl, q3, q4⟩ := h9
  exact C.aret rfl (Or.inr ⟨_, rfl⟩) dJ7_copyOf_1904c_9 (Nat.le_refl _) (by omega) ⟨e', q1, q2, rfl, q3, q4⟩
/-- a list's row is made anew, longer -/
def GrPo (L : List Nat) (f : Nat → AC) (k : Nat) (m n : Int) (cap : Nat) (gr : Nat → Option Nat) : AT := fun r L' f' => ∃ e', 2000 ≤ e' ∧ e' ∉ L ∧ r = some (.ref e') ∧ L' = L ++ [e'] ∧ f' = va_up (va_up f e' (aQ (ncap cap) (va_cpy gr (fun _ => none) 0 0 cap))) k (aL m e' n)
theorem j_grow2 (hd : 3 ≤ d) (hk : k ∈ L) (he : e ∈ L) (hf : f k = aL m e cap) (hfe : f e = aQ cap gr) (h17 : cap = 0 → e = 17) (hel : ∀ i y, gr i = some y → y ∈ L ∧ ∃ fs, f y = .inr (6, fs)) (hc : cap ≤ 40) : AM yJx4a65c_grow_92f84 cJx4a65c_grow_92f84 4 (some (.array (.object "java/lang/Object"))) d 1 (ncap cap) [.ref k, .int (iI ((cap : Int) + 1))] L f (GrPo L f k m cap cap gr) := by
  refine AM.of (by decide +kernel) (by simp [Value.category]) (Nat.le_of_ble_eq_true rfl) false (fun h => by cases h) (fun X C => ?_)
  by_cases h0 : cap = 0
  · have e17 := h17 h0
    subst e17
    subst h0
    refine C.aload_n dJx4a65c_grow_92f84_0 rfl ?_
    refine C.getf gf_Jx4a65c_9 dJx4a65c_grow_92f84_1 hk hf rfl ?_
    refine C.alenI dJx4a65c_grow_92f84_4 he hfe (by decide) ?_
    refine C.istore_n dJx4a65c_grow_92f84_5 (by decide) rfl ?_
    refine C.iload_n dJx4a65c_grow_92f84_6 rfl ?_
    refine C.if_gtI (tgt := 20) dJx4a65c_grow_92f84_7 (by decide) (by omega) (fun h => absurd h (by omega)) (fun _ => ?_)
    refine C.aload_n dJx4a65c_grow_92f84_10 rfl ?_
    refine C.getf gf_Jx4a65c_9 dJx4a65c_grow_92f84_11 hk hf rfl ?_
    refine C.gdef dJx4a65c_grow_92f84_14 (om_wsL_law0_r3 _ (List.mem_of_getElem? (i := 18) rfl)) ?_
    refine C.acmp_eqT (tgt := 45) dJx4a65c_grow_92f84_17 (by decide) ?_
    refine C.aload_n dJx4a65c_grow_92f84_45 rfl ?_
    refine C.bi dJx4a65c_grow_92f84_46 (by decide) ?_
    refine C.iload_n dJx4a65c_grow_92f84_48 rfl ?_
    refine C.mmax (om_wsL_law0_r17 _ (List.mem_of_getElem? (i := 23) rfl)) (by decide) (by decide) (by omega) (Nat.zero_le _) (Nat.zero_le _) (Nat.le_of_ble_eq_true rfl) dJx4a65c_grow_92f84_49 ?_
    refine C.newQ (t := 5) (cl := "java/lang/Object") (N := 10) (fun _ => rfl) (fun h => h.2.2.2.2.2.2.2.2.1.2) (om_wsL_law0_r18 _ (List.mem_of_getElem? (i := 0) rfl)) rfl (by omega) dJx4a65c_grow_92f84_52 (Nat.le_refl _) (Nat.le_refl _) (fun e' h1' h2' => ?_)
    have hne : k ≠ e' := fun h => h2' (h ▸ hk)
    refine C.dupx1 dJx4a65c_grow_92f84_55 rfl rfl ?_
    refine C.putf pf_Jx4a65c_9 dJx4a65c_grow_92f84_56 (List.mem_append_left _ hk) ((va_up_ne _ _ hne).trans hf) rfl rfl (Nat.le_of_ble_eq_true rfl) ?_
    refine C.aret rfl (Or.inr ⟨_, rfl⟩) dJx4a65c_grow_92f84_59 (Nat.le_refl _) (Nat.le_refl _) ⟨e', h1', h2', rfl, rfl, ?_⟩
    have : va_cpy gr (fun _ => none) 0 0 0 = fun _ => none := by
      funext i
      unfold va_cpy
      rw [if_neg (by omega)]
    rw [this]
    rfl
  · refine C.aload_n dJx4a65c_grow_92f84_0 rfl ?_
    refine C.getf gf_Jx4a65c_9 dJx4a65c_grow_92f84_1 hk hf rfl ?_
    refine C.alenI dJx4a65c_grow_92f84_4 he hfe (by decide) ?_
    refine C.istore_n dJx4a65c_grow_92f84_5 (by decide) rfl ?_
    refine C.iload_n dJx4a65c_grow_92f84_6 rfl ?_
    refine C.if_gtI (tgt := 20) dJx4a65c_grow_92f84_7 (by decide) (by omega) (fun _ => ?_) (fun h => absurd h (by omega))
    refine C.iload_n dJx4a65c_grow_92f84_20 rfl ?_
    refine C.iload_n dJx4a65c_grow_92f84_21 rfl ?_
    refine C.iload_n dJx4a65c_grow_92f84_22 rfl ?_
    refine C.isubI dJx4a65c_grow_92f84_23 ?_
    refine C.topI (b := 1) (by omega) ?_
    refine C.iload_n dJx4a65c_grow_92f84_24 rfl ?_
    refine C.ic dJx4a65c_grow_92f84_25 ?_
    refine C.ishr dJx4a65c_grow_92f84_26 ?_
    rw [half_iI (by omega)]
    refine C.callS (j_newLength (d := d - 1) (cap := cap) (by omega) (by omega) (by omega)) cw_J8_newLength_cabcc ml_Jx4a65c_73 sm_J8_newLength_cabcc dJx4a65c_grow_92f84_27 rfl (by omega) (Nat.zero_le _) (Nat.zero_le _) (Nat.le_of_ble_eq_true rfl) rfl (fun r L9 f9 h9 => ?_)
    obtain ⟨rfl, hL9, hf9⟩ := h9
    rw [hL9, hf9]
    clear hL9 hf9
    have hn1 : cap ≤ ncap cap ∧ ncap cap < 3000 := by unfold ncap; rw [if_neg h0]; omega
    refine C.istore_n dJx4a65c_grow_92f84_30 (by decide) rfl ?_
    refine C.aload_n dJx4a65c_grow_92f84_31 rfl ?_
    refine C.aload_n dJx4a65c_grow_92f84_32 rfl ?_
    refine C.getf gf_Jx4a65c_9 dJx4a65c_grow_92f84_33 hk hf rfl ?_
    refine C.iload_n dJx4a65c_grow_92f84_36 rfl ?_
    refine C.callS (j_copyOf (d := d - 1) (nc := ncap cap) h0 (by omega) he hfe hel hn1.1 hn1.2) cw_J7_copyOf_1904c ml_Jx4a65c_66 sm_J7_copyOf_1904c dJx4a65c_grow_92f84_37 rfl (by omega) (Nat.le_refl _) (by omega) (Nat.le_of_ble_eq_true rfl) rfl (fun r L9 f9 h9 => ?_)
    obtain ⟨e', h1', h2', rfl, hL9, hf9⟩ := h9
    rw [hL9, hf9]
    clear hL9 hf9
    have hne : k ≠ e' := fun h => h2' (h ▸ hk)
    refine C.dupx1 dJx4a65c_grow_92f84_40 rfl rfl ?_
    refine C.putf pf_Jx4a65c_9 dJx4a65c_grow_92f84_41 (List.mem_append_left _ hk) ((va_up_ne _ _ hne).trans hf) rfl rfl (Nat.le_of_ble_eq_true rfl) ?_
    exact C.aret rfl (Or.inr ⟨_, rfl⟩) dJx4a65c_grow_92f84_44 (Nat.le_refl _) (by omega) ⟨e', h1', h2', rfl, rfl, rfl⟩
theorem j_grow (hd : 4 ≤ d) (hk : k ∈ L) (he : e ∈ L) (hf : f k = aL m e cap) (hfe : f e = aQ cap gr) (h17 : cap = 0 → e = 17) (hel : ∀ i y, gr i = some y → y ∈ L ∧ ∃ fs, f y = .inr (6, fs)) (hc : cap ≤ 40) : AM yJx4a65c_grow_d5877 cJx4a65c_grow_d5877 1 (some (.array (.object "java/lang/Object"))) d 1 (ncap cap) [.ref k] L f (GrPo L f k m cap cap gr) := by
  refine AM.of (by decide +kernel) (by simp [Value.category]) (Nat.le_of_ble_eq_true rfl) false (fun h => by cases h) (fun X C => ?_)
  refine C.aload_n dJx4a65c_grow_d5877_0 rfl ?_
  refine C.aload_n dJx4a65c_grow_d5877_1 rfl ?_
  refine C.getf gf_Jx4a65c_48 dJx4a65c_grow_d5877_2 hk hf rfl ?_
  refine C.ic dJx4a65c_grow_d5877_5 ?_
  refine C.iaddI dJx4a65c_grow_d5877_6 ?_
  refine C.callV (j_grow2 (d := d - 1) (by omega) hk he hf hfe h17 hel hc) cw_Jx4a65c_grow_92f84 ml_Jx4a65c_69 im_Jx4a65c_grow_92f84 sl_Jx4a65c_grow_92f84 dJx4a65c_grow_d5877_7 hk hf rfl rfl (by omega) (Nat.le_refl _) (by omega) (Nat.le_of_ble_eq_true rfl) rfl (fun r L9 f9 h9 => ?_)
  obtain ⟨e', q1, q2, rfl, q3, q4⟩ := h9
  exact C.aret rfl (Or.inr ⟨_, rfl⟩) dJx4a65c_grow_d5877_10 (Nat.le_refl _) (by omega) ⟨e', q1, q2, rfl, q3, q4⟩
end GROW
