section BEGIN
variable {n : Nat} {sx : Nat → Int} {X : XT}
set_option maxRecDepth 20000 in
set_option maxHeartbeats 8000000 in
theorem law_begin (C0 : Lx n sx 1300 601024 7293034 X) (hn : n ≤ 3072) (hsx : ∀ j, i3 (sx j)) : X 0 0 [17, 18, 19] oc 0 [some (.ref 19), none, none, none, none, none, none] [] := by
  have C := C0.C
  refine C.iobj (x := 5) FI.start nf_L_8 dL_law_0 dL_law_3 dL_law_4 (n_plain (d := 1200) (by decide)) cw_X8_init ml_L_63 im_X8_init rfl (by decide) (Nat.le_of_ble_eq_true rfl) (Nat.le_of_ble_eq_true rfl) (Nat.le_of_ble_eq_true rfl) (fun k0 cs0 s0 L1 f1 hD0 J _ => ?_)
  refine C.astore_n dL_law_7 (by decide) rfl ?_
  refine C.iobj J nf_L_64 dL_law_8 dL_law_11 dL_law_12 (n_model (d := 1200) (by decide)) cw_X9_init ml_L_66 im_X9_init rfl (by decide) (Nat.le_of_ble_eq_true rfl) (Nat.le_of_ble_eq_true rfl) (Nat.le_of_ble_eq_true rfl) (fun k1 cs1 s1 L2 f2 hD1 J2 _ => ?_)
  refine C.astore_n dL_law_15 (by decide) rfl ?_
  refine C.ic dL_law_16 ?_
  refine C.newJ (N := 1) rfl (by decide) dL_law_17 (Nat.le_of_ble_eq_true rfl) (Nat.le_of_ble_eq_true rfl) (fun k2 h2k hkL => ?_)
  have J3 := J2.push (e := cj_ 3 1 (fun _ => 0)) hkL h2k
  refine C.astore_n dL_law_19 (by decide) rfl ?_
  refine C.ic dL_law_20 ?_
  refine C.istore dL_law_21 (by decide) rfl ?_
  generalize va_up f2 k2 (cj_ 3 1 (fun _ => 0)) = f3 at J3 ⊢
  generalize L2 ++ [k2] = L3 at J3 ⊢
  clear J J2 hkL
  obtain ⟨u1, c1, t1, u3, c3, t3, u11, c11, t11, u13, c13, t13, u15, c15, t15, ⟨u2, rfl, rfl⟩, ⟨u4, c4, t4, u6, c6, t6, u10, ⟨u5, c5, t5, ⟨rfl, rfl⟩, rfl, rfl⟩, ⟨u7, u8, u9, rfl, rfl⟩, rfl, rfl⟩, ⟨u12, rfl, rfl⟩, ⟨u14, c14, t14, ⟨rfl, rfl⟩, rfl, rfl⟩, ⟨u16, c16, t16, ⟨rfl, rfl⟩, rfl, rfl⟩, rfl, rfl⟩ := hD0
  obtain ⟨w21, w22, w23, w24, w25, w26, w27, w28, w29, w30, w31, w32, w33, w34, rfl, rfl⟩ := hD1
  have eL := FI_sum J3 rfl
  obtain ⟨X', C', hX'⟩ := C0.renum (sgS [k0, u1, u2, u3, u4, u5, u6, u7, u8, u9, u10, u11, u12, u13, u14, u15, u16, k1, w21, w22, w23, w24, w25, w26, w27, w28, w29, w30, w31, w32, w33, w34, k2]) ⟨rfl, rfl, rfl⟩ (fun k hk => sgS_ge rfl hk)
  refine hX' _ _ _ _ _ _ _ L0S f0S (lwV 0 none none) [] eL ?_ OO0 rfl rfl ?_
  · intro k hk hno
    simp only [L0S, List.mem_cons, List.not_mem_nil, or_false] at hk
    rcases hk with rfl | rfl | rfl | rfl | rfl | rfl | rfl | rfl | rfl | rfl | rfl | rfl | rfl | rfl | rfl | rfl | rfl | rfl | rfl | rfl | rfl | rfl | rfl | rfl | rfl | rfl | rfl | rfl | rfl | rfl | rfl | rfl | rfl | rfl | rfl | rfl
    · exact absurd hno (by decide)
    · exact absurd hno (by decide)
    · exact absurd hno (by decide)
    · have h := J3.2.1 _ (List.mem_of_getElem? (i := 0) rfl)
      exact h.2.2
    · have h := J3.2.1 _ (List.mem_of_getElem? (i := 1) rfl)
      exact h.2.2
    · have h := J3.2.1 _ (List.mem_of_getElem? (i := 2) rfl)
      exact h.2.2
    · have h := J3.2.1 _ (List.mem_of_getElem? (i := 3) rfl)
      exact h.2.2
    · have h := J3.2.1 _ (List.mem_of_getElem? (i := 4) rfl)
      exact h.2.2
    · have h := J3.2.1 _ (List.mem_of_getElem? (i := 5) rfl)
      exact h.2.2
    · have h := J3.2.1 _ (List.mem_of_getElem? (i := 6) rfl)
      exact h.2.2
    · have h := J3.2.1 _ (List.mem_of_getElem? (i := 7) rfl)
      exact h.2.2
    · have h := J3.2.1 _ (List.mem_of_getElem? (i := 8) rfl)
      exact h.2.2
    · have h := J3.2.1 _ (List.mem_of_getElem? (i := 9) rfl)
      exact h.2.2
    · have h := J3.2.1 _ (List.mem_of_getElem? (i := 10) rfl)
      exact h.2.2
    · have h := J3.2.1 _ (List.mem_of_getElem? (i := 11) rfl)
      exact h.2.2
    · have h := J3.2.1 _ (List.mem_of_getElem? (i := 12) rfl)
      exact h.2.2
    · have h := J3.2.1 _ (List.mem_of_getElem? (i := 13) rfl)
      exact h.2.2
    · have h := J3.2.1 _ (List.mem_of_getElem? (i := 14) rfl)
      exact h.2.2
    · have h := J3.2.1 _ (List.mem_of_getElem? (i := 15) rfl)
      exact h.2.2
    · have h := J3.2.1 _ (List.mem_of_getElem? (i := 16) rfl)
      exact h.2.2
    · have h := J3.2.1 _ (List.mem_of_getElem? (i := 17) rfl)
      exact h.2.2
    · have h := J3.2.1 _ (List.mem_of_getElem? (i := 18) rfl)
      exact h.2.2
    · have h := J3.2.1 _ (List.mem_of_getElem? (i := 19) rfl)
      exact h.2.2
    · have h := J3.2.1 _ (List.mem_of_getElem? (i := 20) rfl)
      exact h.2.2
    · have h := J3.2.1 _ (List.mem_of_getElem? (i := 21) rfl)
      exact h.2.2
    · have h := J3.2.1 _ (List.mem_of_getElem? (i := 22) rfl)
      exact h.2.2
    · have h := J3.2.1 _ (List.mem_of_getElem? (i := 23) rfl)
      exact h.2.2
    · have h := J3.2.1 _ (List.mem_of_getElem? (i := 24) rfl)
      exact h.2.2
    · have h := J3.2.1 _ (List.mem_of_getElem? (i := 25) rfl)
      exact h.2.2
    · have h := J3.2.1 _ (List.mem_of_getElem? (i := 26) rfl)
      exact h.2.2
    · have h := J3.2.1 _ (List.mem_of_getElem? (i := 27) rfl)
      exact h.2.2
    · have h := J3.2.1 _ (List.mem_of_getElem? (i := 28) rfl)
      exact h.2.2
    · have h := J3.2.1 _ (List.mem_of_getElem? (i := 29) rfl)
      exact h.2.2
    · have h := J3.2.1 _ (List.mem_of_getElem? (i := 30) rfl)
      exact h.2.2
    · have h := J3.2.1 _ (List.mem_of_getElem? (i := 31) rfl)
      exact h.2.2
    · have h := J3.2.1 _ (List.mem_of_getElem? (i := 32) rfl)
      exact h.2.2
  · exact law_loop C' hn hsx 512 0 L0S f0S none none rfl RI0
end BEGIN
