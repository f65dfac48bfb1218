/-- the list at k with the row e of cap places holds the things xs, all of them sentences -/
def LsAt (L : List Nat) (f : Nat → AC) (k e cap : Nat) (xs : List Nat) : Prop := (∃ (m : Int) (gr : Nat → Option Nat), f k = aL m e xs.length ∧ f e = aQ cap gr ∧ (∀ i y, xs[i]? = some y → gr i = some y) ∧ (∀ i y, gr i = some y → y ∈ L ∧ ∃ fs, f y = .inr (6, fs))) ∧ (k ∈ L ∧ e ∈ L) ∧ xs.length ≤ cap ∧ cap ≤ 40 ∧ (cap = 0 ↔ e = 17)
/-- what else lived lives on as it was -/
def FqL (k e : Nat) (L : List Nat) (f : Nat → AC) (L' : List Nat) (f' : Nat → AC) : Prop := (∀ q ∈ L, q ∈ L') ∧ ∀ q ∈ L, q ≠ k → (q = e → q = 17) → f' q = f q
def AdPo (L : List Nat) (f : Nat → AC) (k e : Nat) (xs : List Nat) (r0 : Option Value) : AT := fun r L' f' => r = r0 ∧ ∃ e' cap', LsAt L' f' k e' cap' xs ∧ FqL k e L f L' f' ∧ (e' = e ∨ (e' ∉ L ∧ 2000 ≤ e'))
section LISTOPS
variable {f : Nat → AC} {k e cap d : Nat} {L : List Nat} {xs : List Nat}
theorem LsAt.ke (h : LsAt L f k e cap xs) : k ≠ e := by
  obtain ⟨⟨m, gr, h1, h2, -⟩, -⟩ := h
  intro hke
  rw [hke, h2] at h1
  cases h1
theorem aL_ne6 {m n : Int} {e : Nat} {fs : List Value} : aL m e n ≠ .inr (6, fs) := fun h => by cases h
theorem j_add3 {v : Nat} {fs : List Value} (hd : 5 ≤ d) (h : LsAt L f k e cap xs) (hl : xs.length < 24) (hv : v ∈ L) (hfv : f v = .inr (6, fs)) : AM yJx4a65c_add_72be8 cJx4a65c_add_72be8 4 none d 1 40 [.ref k, .ref v, .ref e, .int (iI xs.length)] L f (AdPo L f k e (xs ++ [v]) none) := by
  have hke := h.ke
  obtain ⟨⟨m, gr, hf, hfe, hx, hel⟩, ⟨hk, he⟩, hc, hc40, h17⟩ := h
  have hvk : v ≠ k := fun h => aL_ne6 (by rw [← hf, ← h]; exact hfv)
  have hve : v ≠ e := fun h => by rw [h, hfe] at hfv; cases hfv
  have hxa : ∀ {g2 : Nat → Option Nat} {n : Nat}, n = xs.length → (∀ i y, xs[i]? = some y → g2 i = some y) → ∀ i y, (xs ++ [v])[i]? = some y → va_up g2 n (some v) i = some y := by
    intro g2 n hn h1 i y hi
    subst hn
    by_cases hil : i < xs.length
    · rw [List.getElem?_append_left hil] at hi
      rw [va_up_ne _ _ (by omega)]
      exact h1 i y hi
    · have : i = xs.length := by
        have := (List.getElem?_eq_some_iff.mp hi).1
        rw [List.length_append] at this
        simp only [List.length_cons, List.length_nil] at this
        omega
      subst this
      rw [List.getElem?_append_right (Nat.le_refl _), Nat.sub_self] at hi
      rw [va_up_self]
      exact hi
  refine AM.of (by decide +kernel) (by simp [Value.category]) (Nat.le_of_ble_eq_true rfl) false (fun h => by cases h) (fun X C => ?_)
  by_cases hn : xs.length = cap
  · have hf2 : f k = aL m e cap := by rw [← hn]; exact hf
    have hnc : ncap cap ≤ 40 ∧ cap < ncap cap ∧ ¬ ncap cap = 0 := by unfold ncap; split <;> omega
    refine C.iload_n dJx4a65c_add_72be8_0 rfl ?_
    refine C.aload_n dJx4a65c_add_72be8_1 rfl ?_
    refine C.alenI dJx4a65c_add_72be8_2 he hfe (by decide) ?_
    refine C.icmp_neI (tgt := 11) dJx4a65c_add_72be8_3 (by decide) (by omega) (by omega) (fun h => absurd (by omega) h) (fun _ => ?_)
    refine C.aload_n dJx4a65c_add_72be8_6 rfl ?_
    refine C.callV (j_grow (d := d - 1) (by omega) hk he hf2 hfe h17.mp hel hc40) cw_Jx4a65c_grow_d5877 ml_Jx4a65c_129 im_Jx4a65c_grow_d5877 sl_Jx4a65c_grow_d5877 dJx4a65c_add_72be8_7 hk hf rfl rfl (by omega) (Nat.le_refl _) (by omega) (Nat.le_of_ble_eq_true rfl) rfl (fun r L9 f9 h9 => ?_)
    obtain ⟨e', q1, q2, rfl, rfl, rfl⟩ := h9
    have hke' : e' ≠ k := fun h => q2 (h ▸ hk)
    have hve' : v ≠ e' := fun h => q2 (h ▸ hv)
    refine C.astore_n dJx4a65c_add_72be8_10 (by decide) rfl ?_
    refine C.aload_n dJx4a65c_add_72be8_11 rfl ?_
    refine C.iload_n dJx4a65c_add_72be8_12 rfl ?_
    refine C.aload_n dJx4a65c_add_72be8_13 rfl ?_
    refine C.aast5 (i := xs.length) (fs := fs) dJx4a65c_add_72be8_14 (List.mem_append_right _ List.mem_cons_self) ((va_up_ne _ _ hke').trans (va_up_self _ _ _)) (List.mem_append_left _ hv) ((va_up_ne _ _ hvk).trans ((va_up_ne _ _ hve').trans hfv)) rfl (by omega) (by omega) ?_
    refine C.aload_n dJx4a65c_add_72be8_15 rfl ?_
    refine C.iload_n dJx4a65c_add_72be8_16 rfl ?_
    refine C.ic dJx4a65c_add_72be8_17 ?_
    refine C.iaddI dJx4a65c_add_72be8_18 ?_
    refine C.putf pf_Jx4a65c_48 dJx4a65c_add_72be8_19 (List.mem_append_left _ hk) ((va_up_ne _ _ (Ne.symm hke')).trans (va_up_self _ _ _)) rfl rfl (Nat.le_of_ble_eq_true rfl) ?_
    refine C.vret rfl dJx4a65c_add_72be8_22 (Nat.le_refl _) (by omega) ⟨rfl, e', ncap cap, ⟨⟨m, va_up (va_cpy gr (fun _ => none) 0 0 cap) xs.length (some v), ?_, ?_, ?_, ?_⟩, ⟨List.mem_append_left _ hk, List.mem_append_right _ List.mem_cons_self⟩, ?_, hnc.1, ⟨fun h => absurd h hnc.2.2, fun h => absurd h (by omega)⟩⟩, ⟨fun q hq => List.mem_append_left _ hq, fun q hq h1 h2 => ?_⟩, Or.inr ⟨q2, q1⟩⟩
    · rw [va_up_self, List.length_append]
      rfl
    · rw [va_up_ne _ _ hke', va_up_self]
    · refine hxa rfl (fun i y hi => ?_)
      have hil := (List.getElem?_eq_some_iff.mp hi).1
      unfold va_cpy
      rw [if_pos ⟨Nat.zero_le _, by omega⟩, Nat.sub_zero, Nat.zero_add]
      exact hx i y hi
    · intro i y hi
      have hy : y = v ∨ gr i = some y := by
        by_cases hil : i = xs.length
        · subst hil
          rw [va_up_self] at hi
          exact Or.inl (Option.some.inj hi).symm
        · rw [va_up_ne _ _ hil] at hi
          unfold va_cpy at hi
          split at hi
          · rw [Nat.sub_zero, Nat.zero_add] at hi
            exact Or.inr hi
          · cases hi
      have hyL : y ∈ L ∧ ∃ fs, f y = .inr (6, fs) := by
        rcases hy with rfl | h
        · exact ⟨hv, fs, hfv⟩
        · exact hel i y h
      obtain ⟨y1, fs2, y2⟩ := hyL
      have n1 : y ≠ k := fun h => aL_ne6 (by rw [← hf, ← h]; exact y2)
      have n2 : y ≠ e' := fun h => q2 (h ▸ y1)
      exact ⟨List.mem_append_left _ y1, fs2, by rw [va_up_ne _ _ n1, va_up_ne _ _ n2, va_up_ne _ _ n1, va_up_ne _ _ n2]; exact y2⟩
    · rw [List.length_append]
      show xs.length + 1 ≤ ncap cap
      omega
    · have n2 : q ≠ e' := fun h => q2 (h ▸ hq)
      rw [va_up_ne _ _ h1, va_up_ne _ _ n2, va_up_ne _ _ h1, va_up_ne _ _ n2]
  · refine C.iload_n dJx4a65c_add_72be8_0 rfl ?_
    refine C.aload_n dJx4a65c_add_72be8_1 rfl ?_
    refine C.alenI dJx4a65c_add_72be8_2 he hfe (by decide) ?_
    refine C.icmp_neI (tgt := 11) dJx4a65c_add_72be8_3 (by decide) (by omega) (by omega) (fun _ => ?_) (fun h => absurd h (by omega))
    refine C.aload_n dJx4a65c_add_72be8_11 rfl ?_
    refine C.iload_n dJx4a65c_add_72be8_12 rfl ?_
    refine C.aload_n dJx4a65c_add_72be8_13 rfl ?_
    refine C.aast5 (i := xs.length) (fs := fs) dJx4a65c_add_72be8_14 he hfe hv hfv rfl (by omega) (by omega) ?_
    refine C.aload_n dJx4a65c_add_72be8_15 rfl ?_
    refine C.iload_n dJx4a65c_add_72be8_16 rfl ?_
    refine C.ic dJx4a65c_add_72be8_17 ?_
    refine C.iaddI dJx4a65c_add_72be8_18 ?_
    refine C.putf pf_Jx4a65c_48 dJx4a65c_add_72be8_19 hk ((va_up_ne _ _ hke).trans hf) rfl rfl (Nat.le_of_ble_eq_true rfl) ?_
    refine C.vret rfl dJx4a65c_add_72be8_22 (Nat.zero_le _) (Nat.zero_le _) ⟨rfl, e, cap, ⟨⟨m, va_up gr xs.length (some v), ?_, ?_, hxa rfl hx, ?_⟩, ⟨hk, he⟩, ?_, hc40, h17⟩, ⟨fun q hq => hq, fun q hq h1 h2 => ?_⟩, Or.inl rfl⟩
    · rw [va_up_self, List.length_append]
      rfl
    · rw [va_up_ne _ _ (Ne.symm hke), va_up_self]
    · intro i y hi
      have hyL : y ∈ L ∧ ∃ fs, f y = .inr (6, fs) := by
        by_cases hil : i = xs.length
        · subst hil
          rw [va_up_self] at hi
          obtain rfl := Option.some.inj hi
          exact ⟨hv, fs, hfv⟩
        · rw [va_up_ne _ _ hil] at hi
          exact hel i y hi
      obtain ⟨y1, fs2, y2⟩ := hyL
      have n1 : y ≠ k := fun h => aL_ne6 (by rw [← hf, ← h]; exact y2)
      have n2 : y ≠ e := fun h => by rw [h, hfe] at y2; cases y2
      exact ⟨y1, fs2, by rw [va_up_ne _ _ n1, va_up_ne _ _ n2]; exact y2⟩
    · rw [List.length_append]
      show xs.length + 1 ≤ cap
      omega
    · rw [va_up_ne _ _ h1]
      by_cases hqe : q = e
      · have h3 := h17.mpr (hqe ▸ h2 hqe)
        omega
      · rw [va_up_ne _ _ hqe]
end LISTOPS
