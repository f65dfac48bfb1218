/-- a list's two cells -/
abbrev aQ (n : Nat) (gr : Nat → Option Nat) : AC := .inl (5, n, .inr (.inr (.inr (.inr gr))))
abbrev aL (m : Int) (e : Nat) (n : Int) : AC := .inr (2, [.int (iI m), .ref e, .int (iI n)])
def ls (f : Nat → AC) (k e : Nat) (m n : Int) (cap : Nat) (gr : Nat → Option Nat) : Nat → AC := va_up (va_up f k (aL m e n)) e (aQ cap gr)
section LIST
variable {f : Nat → AC} {k e cap : Nat} {m n : Int} {gr : Nat → Option Nat}
theorem ls_id (hk : f k = aL m e n) (he : f e = aQ cap gr) : ls f k e m n cap gr = f := by
  unfold ls
  rw [up_id f k _ hk, up_id f e _ he]
theorem ls_k (h : k ≠ e) : ls f k e m n cap gr k = aL m e n := by unfold ls; rw [va_up_ne _ _ h, va_up_self]
theorem ls_e : ls f k e m n cap gr e = aQ cap gr := by unfold ls; rw [va_up_self]
theorem ls_o {q : Nat} (h1 : q ≠ k) (h2 : q ≠ e) : ls f k e m n cap gr q = f q := by unfold ls; rw [va_up_ne _ _ h2, va_up_ne _ _ h1]
theorem ls_pk (h : k ≠ e) {m' n' : Int} : va_up (ls f k e m n cap gr) k (aL m' e n') = ls f k e m' n' cap gr := by
  unfold ls
  funext q
  by_cases h1 : q = k
  · subst h1; rw [va_up_self, va_up_ne _ _ h, va_up_self]
  · rw [va_up_ne _ _ h1]
    by_cases h2 : q = e
    · subst h2; rw [va_up_self, va_up_self]
    · rw [va_up_ne _ _ h2, va_up_ne _ _ h1, va_up_ne _ _ h2, va_up_ne _ _ h1]
theorem ls_pe {cap' : Nat} {gr' : Nat → Option Nat} : va_up (ls f k e m n cap gr) e (aQ cap' gr') = ls f k e m n cap' gr' := by
  unfold ls
  funext q
  by_cases h2 : q = e
  · subst h2; rw [va_up_self, va_up_self]
  · rw [va_up_ne _ _ h2, va_up_ne _ _ h2, va_up_ne _ _ h2]
variable {d : Nat} {L : List Nat}
theorem j_size (hk : k ∈ L) (hf : f k = aL m e n) : AM yJx4a65c_size_8abf5 cJx4a65c_size_8abf5 1 (some .int) d 0 0 [.ref k] L f (SP (some (.int (iI n))) L f) := by
  refine AM.of (by decide +kernel) (by simp [Value.category]) (Nat.le_of_ble_eq_true rfl) false (fun h => by cases h) (fun X C => ?_)
  refine C.aload_n dJx4a65c_size_8abf5_0 rfl ?_
  refine C.getf gf_Jx4a65c_48 dJx4a65c_size_8abf5_1 hk hf rfl ?_
  exact C.retI rfl rfl dJx4a65c_size_8abf5_4 (Nat.le_refl _) (Nat.le_refl _) ⟨rfl, rfl, rfl⟩
theorem j_checkIndex3 {i n : Int} (h : 0 ≤ i ∧ i < n ∧ n < 2147483648) : AM yJ3_checkIndex_8e157 cJ3_checkIndex_8e157 3 (some .int) d 0 0 [.int (iI i), .int (iI n), .null] L f (SP (some (.int (iI i))) L f) := by
  refine AM.of (by decide +kernel) (by simp [Value.category]) (Nat.le_of_ble_eq_true rfl) false (fun h => by cases h) (fun X C => ?_)
  refine C.iload_n dJ3_checkIndex_8e157_0 rfl ?_
  refine C.if_ltI (tgt := 9) dJ3_checkIndex_8e157_1 (by decide) (by omega) (fun hc1 => absurd hc1 (by omega)) (fun hc1 => ?_)
  refine C.iload_n dJ3_checkIndex_8e157_4 rfl ?_
  refine C.iload_n dJ3_checkIndex_8e157_5 rfl ?_
  refine C.icmp_ltI (tgt := 16) dJ3_checkIndex_8e157_6 (by decide) (by omega) (by omega) (fun hc6 => ?_) (fun hc6 => absurd hc6 (by omega))
  refine C.iload_n dJ3_checkIndex_8e157_16 rfl ?_
  refine C.retI rfl (by first | rfl | (exact (iI_bool (by first | exact Or.inl rfl | exact Or.inr rfl | assumption)).1)) dJ3_checkIndex_8e157_17 (Nat.le_refl _) (Nat.le_refl _) ⟨rfl, rfl, rfl⟩
  skip
theorem j_checkIndex {i n : Int} (hd : 1 ≤ d) (h : 0 ≤ i ∧ i < n ∧ n < 2147483648) : AM yJ15_checkIndex_7cf53 cJ15_checkIndex_7cf53 2 (some .int) d 0 0 [.int (iI i), .int (iI n)] L f (SP (some (.int (iI i))) L f) := by
  refine AM.of (by decide +kernel) (by simp [Value.category]) (Nat.le_of_ble_eq_true rfl) false (fun h => by cases h) (fun X C => ?_)
  refine C.iload_n dJ15_checkIndex_7cf53_0 rfl ?_
  refine C.iload_n dJ15_checkIndex_7cf53_1 rfl ?_
  refine C.null dJ15_checkIndex_7cf53_2 ?_
  refine C.callS (j_checkIndex3 (d := d - 1) h) cw_J3_checkIndex_8e157 ml_J15_105 sm_J3_checkIndex_8e157 dJ15_checkIndex_7cf53_3 rfl (by omega) (Nat.le_refl _) (Nat.le_refl _) (Nat.le_of_ble_eq_true rfl) rfl (fun r L9 f9 h9 => ?_)
  obtain ⟨rfl, hL9, hf9⟩ := h9
  rw [hL9, hf9]
  clear hL9 hf9
  refine C.retI rfl (by first | rfl | (exact (iI_bool (by first | exact Or.inl rfl | exact Or.inr rfl | assumption)).1)) dJ15_checkIndex_7cf53_6 (Nat.le_refl _) (Nat.le_refl _) ⟨rfl, rfl, rfl⟩
  skip
theorem j_elementData {i : Nat} {y : Nat} (hk : k ∈ L) (he : e ∈ L) (hf : f k = aL m e n) (hfe : f e = aQ cap gr) (hi : i < cap) (hc : cap < 1000) (hy : gr i = some y) : AM yJx4a65c_elementData_915e3 cJx4a65c_elementData_915e3 2 (some (.object "java/lang/Object")) d 0 0 [.ref k, .int (iI i)] L f (SP (some (.ref y)) L f) := by
  refine AM.of (by decide +kernel) (by simp [Value.category]) (Nat.le_of_ble_eq_true rfl) false (fun h => by cases h) (fun X C => ?_)
  refine C.aload_n dJx4a65c_elementData_915e3_0 rfl ?_
  refine C.getf gf_Jx4a65c_9 dJx4a65c_elementData_915e3_1 hk hf rfl ?_
  refine C.iload_n dJx4a65c_elementData_915e3_4 rfl ?_
  refine C.aald5 dJx4a65c_elementData_915e3_5 he hfe (iI_in (by omega) (by omega) (show cap < 2147483648 by omega)) ?_
  rw [iI_clamp (by omega), Int.toNat_natCast, hy]
  exact C.aret rfl (Or.inl ⟨_, rfl⟩) dJx4a65c_elementData_915e3_6 (Nat.le_refl _) (Nat.le_refl _) ⟨rfl, rfl, rfl⟩
theorem j_get {i N y : Nat} (hd : 2 ≤ d) (hk : k ∈ L) (he : e ∈ L) (hf : f k = aL m e N) (hfe : f e = aQ cap gr) (hi : i < N) (hN : N ≤ cap) (hc : cap < 1000) (hy : gr i = some y) : AM yJx4a65c_get_915e3 cJx4a65c_get_915e3 2 (some (.object "java/lang/Object")) d 0 0 [.ref k, .int (iI i)] L f (SP (some (.ref y)) L f) := by
  refine AM.of (by decide +kernel) (by simp [Value.category]) (Nat.le_of_ble_eq_true rfl) false (fun h => by cases h) (fun X C => ?_)
  refine C.iload_n dJx4a65c_get_915e3_0 rfl ?_
  refine C.aload_n dJx4a65c_get_915e3_1 rfl ?_
  refine C.getf gf_Jx4a65c_48 dJx4a65c_get_915e3_2 hk hf rfl ?_
  refine C.callS (j_checkIndex (d := d - 1) (i := i) (n := N) (by omega) ⟨by omega, by omega, by omega⟩) cw_J15_checkIndex_7cf53 ml_Jx4a65c_118 sm_J15_checkIndex_7cf53 dJx4a65c_get_915e3_5 rfl (by omega) (Nat.le_refl _) (Nat.le_refl _) (Nat.le_of_ble_eq_true rfl) rfl (fun r L9 f9 h9 => ?_)
  obtain ⟨rfl, hL9, hf9⟩ := h9
  rw [hL9, hf9]
  clear hL9 hf9
  refine C.pop dJx4a65c_get_915e3_8 rfl ?_
  refine C.aload_n dJx4a65c_get_915e3_9 rfl ?_
  refine C.iload_n dJx4a65c_get_915e3_10 rfl ?_
  refine C.callV (j_elementData (d := d - 1) (i := i) hk he hf hfe (by omega) hc hy) cw_Jx4a65c_elementData_915e3 ml_Jx4a65c_123 im_Jx4a65c_elementData_915e3 sl_Jx4a65c_elementData_915e3 dJx4a65c_get_915e3_11 hk hf rfl rfl (by omega) (Nat.le_refl _) (Nat.le_refl _) (Nat.le_of_ble_eq_true rfl) rfl (fun r L9 f9 h9 => ?_)
  obtain ⟨rfl, hL9, hf9⟩ := h9
  rw [hL9, hf9]
  clear hL9 hf9
  exact C.aret rfl (Or.inl ⟨_, rfl⟩) dJx4a65c_get_915e3_14 (Nat.le_refl _) (Nat.le_refl _) ⟨rfl, rfl, rfl⟩
theorem j_set {i N y v : Nat} {fs : List Value} (hd : 2 ≤ d) (hk : k ∈ L) (he : e ∈ L) (hf : f k = aL m e N) (hfe : f e = aQ cap gr) (hi : i < N) (hN : N ≤ cap) (hc : cap < 1000) (hy : gr i = some y) (hv : v ∈ L) (hfv : f v = .inr (6, fs)) : AM yJx4a65c_set_bcc79 cJx4a65c_set_bcc79 4 (some (.object "java/lang/Object")) d 0 0 [.ref k, .int (iI i), .ref v] L f (SP (some (.ref y)) L (va_up f e (aQ cap (va_up gr i (some v))))) := by
  refine AM.of (by decide +kernel) (by simp [Value.category]) (Nat.le_of_ble_eq_true rfl) false (fun h => by cases h) (fun X C => ?_)
  refine C.iload_n dJx4a65c_set_bcc79_0 rfl ?_
  refine C.aload_n dJx4a65c_set_bcc79_1 rfl ?_
  refine C.getf gf_Jx4a65c_48 dJx4a65c_set_bcc79_2 hk hf rfl ?_
  refine C.callS (j_checkIndex (d := d - 1) (i := i) (n := N) (by omega) ⟨by omega, by omega, by omega⟩) cw_J15_checkIndex_7cf53 ml_Jx4a65c_118 sm_J15_checkIndex_7cf53 dJx4a65c_set_bcc79_5 rfl (by omega) (Nat.le_refl _) (Nat.le_refl _) (Nat.le_of_ble_eq_true rfl) rfl (fun r L9 f9 h9 => ?_)
  obtain ⟨rfl, hL9, hf9⟩ := h9
  rw [hL9, hf9]
  clear hL9 hf9
  refine C.pop dJx4a65c_set_bcc79_8 rfl ?_
  refine C.aload_n dJx4a65c_set_bcc79_9 rfl ?_
  refine C.iload_n dJx4a65c_set_bcc79_10 rfl ?_
  refine C.callV (j_elementData (d := d - 1) (i := i) hk he hf hfe (by omega) hc hy) cw_Jx4a65c_elementData_915e3 ml_Jx4a65c_123 im_Jx4a65c_elementData_915e3 sl_Jx4a65c_elementData_915e3 dJx4a65c_set_bcc79_11 hk hf rfl rfl (by omega) (Nat.le_refl _) (Nat.le_refl _) (Nat.le_of_ble_eq_true rfl) rfl (fun r L9 f9 h9 => ?_)
  obtain ⟨rfl, hL9, hf9⟩ := h9
  rw [hL9, hf9]
  clear hL9 hf9
  refine C.astore_n dJx4a65c_set_bcc79_14 (by decide) rfl ?_
  refine C.aload_n dJx4a65c_set_bcc79_15 rfl ?_
  refine C.getf gf_Jx4a65c_9 dJx4a65c_set_bcc79_16 hk hf rfl ?_
  refine C.iload_n dJx4a65c_set_bcc79_19 rfl ?_
  refine C.aload_n dJx4a65c_set_bcc79_20 rfl ?_
  refine C.aast5 (i := i) dJx4a65c_set_bcc79_21 he hfe hv hfv rfl (by omega) (by omega) ?_
  refine C.aload_n dJx4a65c_set_bcc79_22 rfl ?_
  exact C.aret rfl (Or.inl ⟨_, rfl⟩) dJx4a65c_set_bcc79_23 (Nat.le_refl _) (Nat.le_refl _) ⟨rfl, rfl, rfl⟩
end LIST
