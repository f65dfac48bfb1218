/-! the reference's leaves -/
theorem m_thrown {d : Nat} {sf : SF} {sa : SA} : MM yX9_thrown cX9_thrown 1 (some .int) d [] sf sa (fun r sf' sa' => r = some (.int (iI (sf 0))) ∧ sf' = sf ∧ sa' = sa) := by
  refine MM.of2 (by decide +kernel) rfl (Nat.le_of_ble_eq_true rfl) (fun L g hL X C => ?_)
  refine C.aload_n dX9_thrown_0 rfl ?_
  refine C.mget hL gf_X9_59 dX9_thrown_1 rfl ?_
  refine C.retI rfl (by first | rfl | (exact (iI_bool (by first | exact Or.inl rfl | exact Or.inr rfl | assumption)).1)) dX9_thrown_4 (Nat.le_refl _) (Nat.le_refl _) ⟨_, _, ?_, rfl, rfl⟩
  exact ⟨rfl, rfl, rfl⟩
theorem m_throwsIf {d : Nat} {sf : SF} {sa : SA} {b z : Int} (hb : b = 0 ∨ b = 1) : MM yX9_throwsIf cX9_throwsIf 3 (some .boolean) d [.int (iI b), .int (iI z)] sf sa (fun r sf' sa' => r = some (.int (iI b)) ∧ sf' = (if b = 0 then sf else va_up sf 0 z) ∧ sa' = sa) := by
  refine MM.of2 (by decide +kernel) rfl (Nat.le_of_ble_eq_true rfl) (fun L g hL X C => ?_)
  refine C.iload_n dX9_throwsIf_0 rfl ?_
  refine C.if_eqI (tgt := 9) dX9_throwsIf_1 (by decide) (by omega) (fun hc1 => ?_) (fun hc1 => ?_)
  · refine C.iload_n dX9_throwsIf_9 rfl ?_
    refine C.retI rfl (by first | rfl | (exact (iI_bool (by first | exact Or.inl rfl | exact Or.inr rfl | assumption)).1)) dX9_throwsIf_10 (Nat.le_refl _) (Nat.le_refl _) ⟨_, _, ?_, rfl, rfl⟩
    first | exact ⟨rfl, (if_pos hc1).symm, rfl⟩ | exact ⟨rfl, (if_neg hc1).symm, rfl⟩
  · refine C.aload_n dX9_throwsIf_4 rfl ?_
    refine C.iload_n dX9_throwsIf_5 rfl ?_
    refine C.mput hL pf_X9_59 dX9_throwsIf_6 (by decide) rfl ?_
    refine C.iload_n dX9_throwsIf_9 rfl ?_
    refine C.retI rfl (by first | rfl | (exact (iI_bool (by first | exact Or.inl rfl | exact Or.inr rfl | assumption)).1)) dX9_throwsIf_10 (Nat.le_refl _) (Nat.le_refl _) ⟨_, _, ?_, rfl, rfl⟩
    first | exact ⟨rfl, (if_pos hc1).symm, rfl⟩ | exact ⟨rfl, (if_neg hc1).symm, rfl⟩
theorem m_place {d : Nat} {sf : SF} {sa : SA} {w : Int} (hp : 0 ≤ sf 17 ∧ sf 17 < 1400) : MM yX9_place cX9_place 2 (some .int) d [.int (iI w)] sf sa (fun r sf' sa' => r = some (.int (iI (sf 17))) ∧ sf' = va_up sf 17 (sf 17 + 1) ∧ sa' = va_up (va_up (va_up sa 29 (va_up (sa 29) (sf 17).toNat w)) 30 (va_up (sa 30) (sf 17).toNat (-1))) 31 (va_up (sa 31) (sf 17).toNat (-1))) := by
  refine MM.of2 (by decide +kernel) rfl (Nat.le_of_ble_eq_true rfl) (fun L g hL X C => ?_)
  refine C.aload_n dX9_place_0 rfl ?_
  refine C.mget hL gf_X9_36 dX9_place_1 rfl ?_
  refine C.aload_n dX9_place_4 rfl ?_
  refine C.mget hL gf_X9_62 dX9_place_5 rfl ?_
  refine C.iload_n dX9_place_8 rfl ?_
  refine C.mast hL (ovs_29 _ _ _) dX9_place_9 (by decide) rfl (by decide) (by omega) ?_
  refine C.aload_n dX9_place_10 rfl ?_
  refine C.mget hL gf_X9_39 dX9_place_11 rfl ?_
  refine C.aload_n dX9_place_14 rfl ?_
  refine C.mget hL gf_X9_62 dX9_place_15 rfl ?_
  refine C.ic dX9_place_18 ?_
  refine C.mast hL (ovs_30 _ _ _) dX9_place_19 (by decide) rfl (by decide) (by omega) ?_
  refine C.aload_n dX9_place_20 rfl ?_
  refine C.mget hL gf_X9_42 dX9_place_21 rfl ?_
  refine C.aload_n dX9_place_24 rfl ?_
  refine C.mget hL gf_X9_62 dX9_place_25 rfl ?_
  refine C.ic dX9_place_28 ?_
  refine C.mast hL (ovs_31 _ _ _) dX9_place_29 (by decide) rfl (by decide) (by omega) ?_
  refine C.aload_n dX9_place_30 rfl ?_
  refine C.dup dX9_place_31 rfl ?_
  refine C.mget hL gf_X9_62 dX9_place_32 rfl ?_
  refine C.ic dX9_place_35 ?_
  refine C.iaddI dX9_place_36 ?_
  refine C.mput hL pf_X9_62 dX9_place_37 (by decide) rfl ?_
  refine C.aload_n dX9_place_40 rfl ?_
  refine C.mget hL gf_X9_62 dX9_place_41 rfl ?_
  refine C.ic dX9_place_44 ?_
  refine C.isubI dX9_place_45 ?_
  refine C.retI rfl (by first | rfl | (exact (iI_bool (by first | exact Or.inl rfl | exact Or.inr rfl | assumption)).1)) dX9_place_46 (Nat.le_refl _) (Nat.le_refl _) ⟨_, _, ?_, rfl, rfl⟩
  refine ⟨?_, rfl, rfl⟩
  congr 3
  show sf 17 + 1 - 1 = sf 17
  omega
