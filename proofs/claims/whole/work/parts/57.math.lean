section MATHROWS
variable {own : String} {cc : ByteArray} {nL : Nat} {rt : Option FieldType} {ini : Bool} {d mc ms : Nat} {Po : AT} {X : XT} {ce sl pc : Nat} {L : List Nat} {f : Nat → AC} {lv : List (Option Value)} {st : List Value}
theorem Cx.ldcwi (C : Cx own cc nL rt ini d mc ms Po X) {i : Nat} {v : Int32} (dg : decode cc pc = .ok (.ldc_w i, 3)) (hw : Cond.constant own i v ∈ Om)
    (k : X ce sl L f (pc + 3) lv (.int v :: st)) : X ce sl L f pc lv (st) := by
  obtain ⟨p, l, e, s, m, args, below, meth, c, dC, dI, cy, ad, A, Q, w0, ⟨hx, hb, hml, hown, hts⟩, hin0, hK, hA, hE, had, hret, rfl⟩ := C
  intro H locs ls hP hD hS hl
  exact lv_ldcw hx hb hown (hts _ (List.mem_cons_of_mem _ hw)) dg (k H locs ls hP hD hS hl)
def us (x y : Int32) : Int32 := (x.toUInt32 >>> (y.toUInt32 &&& Int32.toUInt32 31)).toInt32
theorem Cx.iushr (C : Cx own cc nL rt ini d mc ms Po X) {x y : Int32} (dg : decode cc pc = .ok (.iushr, 1))
    (k : X ce sl L f (pc + 1) lv (.int (us x y) :: st)) : X ce sl L f pc lv (.int y :: .int x :: st) := by
  obtain ⟨p, l, e, s, m, args, below, meth, c, dC, dI, cy, ad, A, Q, w0, ⟨hx, hb, hml, hown, hts⟩, hin0, hK, hA, hE, had, hret, rfl⟩ := C
  intro H locs ls hP hD hS hl
  exact lv_iushr hx hb dg rfl (k H locs ls hP hD hS hl)
theorem Cx.mmin (C : Cx own cc nL rt ini d mc ms Po X) {a b : Int} {idx : Nat} (w : Cond.methodLink own idx Lib.Math.min.name ∈ Om) (ha : -2147483648 ≤ a ∧ a < 2147483648) (hb : -2147483648 ≤ b ∧ b < 2147483648) (hd : 1 ≤ d) (h1 : ce ≤ mc) (h2 : sl ≤ ms) (hs : (st.map fun v => v.category).sum ≤ 8) (dg : decode cc pc = .ok (.invokestatic idx, 3))
    (k : X ce sl L f (pc + 3) lv (.int (iI (if b < a then b else a)) :: st)) : X ce sl L f pc lv (.int (iI b) :: .int (iI a) :: st) := by
  obtain ⟨p, l, e, s, m, args, below, meth, c, dC, dI, cy, ad, A, Q, w0, ⟨hx, hbc, hml, hown, hts⟩, hin0, hK, hA, hE, had, hret, rfl⟩ := C
  intro H locs ls hP hD hS hl
  have hcat := cat_sum (ad := ad) hs
  refine va_mmin hx hbc (hml.trans hl.1.symm) hown (hts _ (List.mem_cons_of_mem _ w)) (hts _ (List.mem_cons_of_mem _ (om_wsL_law0_r16 _ (List.mem_of_getElem? (i := 2) rfl)))) (hts _ (List.mem_cons_of_mem _ (om_wsL_law0_r16 _ (List.mem_of_getElem? (i := 3) rfl)))) (hts _ (List.mem_cons_of_mem _ (om_wsL_law0_r16 _ (List.mem_of_getElem? (i := 4) rfl)))) hd (by show _ ≤ 64 * d + 12; omega) h1 h2 dg ?_
  have e : (if iI b < iI a then iI b else iI a) = iI (if b < a then b else a) := by
    by_cases h : b < a
    · rw [if_pos h, if_pos (by rw [Int32.lt_iff_toInt_lt, iI_toInt ha, iI_toInt hb]; exact h)]
    · rw [if_neg h, if_neg (by rw [Int32.lt_iff_toInt_lt, iI_toInt ha, iI_toInt hb]; exact h)]
  rw [e]
  exact k H locs ls hP hD hS hl
theorem Cx.mmax (C : Cx own cc nL rt ini d mc ms Po X) {a b : Int} {idx : Nat} (w : Cond.methodLink own idx Lib.Math.max.name ∈ Om) (ha : -2147483648 ≤ a ∧ a < 2147483648) (hb : -2147483648 ≤ b ∧ b < 2147483648) (hd : 1 ≤ d) (h1 : ce ≤ mc) (h2 : sl ≤ ms) (hs : (st.map fun v => v.category).sum ≤ 8) (dg : decode cc pc = .ok (.invokestatic idx, 3))
    (k : X ce sl L f (pc + 3) lv (.int (iI (if a < b then b else a)) :: st)) : X ce sl L f pc lv (.int (iI b) :: .int (iI a) :: st) := by
  obtain ⟨p, l, e, s, m, args, below, meth, c, dC, dI, cy, ad, A, Q, w0, ⟨hx, hbc, hml, hown, hts⟩, hin0, hK, hA, hE, had, hret, rfl⟩ := C
  intro H locs ls hP hD hS hl
  have hcat := cat_sum (ad := ad) hs
  refine va_mmax hx hbc (hml.trans hl.1.symm) hown (hts _ (List.mem_cons_of_mem _ w)) (hts _ (List.mem_cons_of_mem _ (om_wsL_law0_r16 _ (List.mem_of_getElem? (i := 6) rfl)))) (hts _ (List.mem_cons_of_mem _ (om_wsL_law0_r16 _ (List.mem_of_getElem? (i := 3) rfl)))) (hts _ (List.mem_cons_of_mem _ (om_wsL_law0_r16 _ (List.mem_of_getElem? (i := 7) rfl)))) hd (by show _ ≤ 64 * d + 12; omega) h1 h2 dg ?_
  have e : (if iI a < iI b then iI b else iI a) = iI (if a < b then b else a) := by
    by_cases h : a < b
    · rw [if_pos h, if_pos (by rw [Int32.lt_iff_toInt_lt, iI_toInt ha, iI_toInt hb]; exact h)]
    · rw [if_neg h, if_neg (by rw [Int32.lt_iff_toInt_lt, iI_toInt ha, iI_toInt hb]; exact h)]
  rw [e]
  exact k H locs ls hP hD hS hl
end MATHROWS
def bc1 (x : Int32) : Int32 := x - (us x (iI 1) &&& 1431655765)
def bc2 (x : Int32) : Int32 := (x &&& 858993459) + (us x (iI 2) &&& 858993459)
def bc3 (x : Int32) : Int32 := (x + us x (iI 4)) &&& 252645135
def bc4 (x : Int32) : Int32 := x + us x (iI 8)
def bc5 (x : Int32) : Int32 := x + us x (iI 16)
def bcI (z : Int) : Int := z % 2 + z / 2 % 2 + z / 4 % 2
theorem bc_ok {z : Int} (h : 0 ≤ z ∧ z < 8) : bc5 (bc4 (bc3 (bc2 (bc1 (iI z))))) &&& iI 63 = iI (bcI z) := by
  rcases (show z = 0 ∨ z = 1 ∨ z = 2 ∨ z = 3 ∨ z = 4 ∨ z = 5 ∨ z = 6 ∨ z = 7 by omega) with rfl | rfl | rfl | rfl | rfl | rfl | rfl | rfl <;> decide +kernel
theorem j_bitCount {d : Nat} {L : List Nat} {f : Nat → AC} {z : Int} (h : 0 ≤ z ∧ z < 8) : AM yJ6_bitCount_0f7a4 cJ6_bitCount_0f7a4 1 (some .int) d 0 0 [.int (iI z)] L f (SP (some (.int (iI (bcI z)))) L f) := by
  have hz := bc_ok h
  generalize iI (bcI z) = R at *
  generalize iI z = x at *
  refine AM.of (by decide +kernel) (by simp [Value.category]) (Nat.le_of_ble_eq_true rfl) false (fun h => by cases h) (fun X C => ?_)
  refine C.iload_n dJ6_bitCount_0f7a4_0 rfl ?_
  refine C.iload_n dJ6_bitCount_0f7a4_1 rfl ?_
  refine C.ic dJ6_bitCount_0f7a4_2 ?_
  refine C.iushr dJ6_bitCount_0f7a4_3 ?_
  refine C.ldcwi dJ6_bitCount_0f7a4_4 kc_J6_265 ?_
  refine C.iand dJ6_bitCount_0f7a4_7 ?_
  refine C.isub dJ6_bitCount_0f7a4_8 ?_
  show X 0 0 L f 9 _ [.int (bc1 x)]
  generalize bc1 x = x1 at *
  refine C.istore_n dJ6_bitCount_0f7a4_9 (by decide) rfl ?_
  refine C.iload_n dJ6_bitCount_0f7a4_10 rfl ?_
  refine C.ldcwi dJ6_bitCount_0f7a4_11 kc_J6_266 ?_
  refine C.iand dJ6_bitCount_0f7a4_14 ?_
  refine C.iload_n dJ6_bitCount_0f7a4_15 rfl ?_
  refine C.ic dJ6_bitCount_0f7a4_16 ?_
  refine C.iushr dJ6_bitCount_0f7a4_17 ?_
  refine C.ldcwi dJ6_bitCount_0f7a4_18 kc_J6_266 ?_
  refine C.iand dJ6_bitCount_0f7a4_21 ?_
  refine C.iadd dJ6_bitCount_0f7a4_22 ?_
  show X 0 0 L f 23 _ [.int (bc2 x1)]
  generalize bc2 x1 = x2 at *
  refine C.istore_n dJ6_bitCount_0f7a4_23 (by decide) rfl ?_
  refine C.iload_n dJ6_bitCount_0f7a4_24 rfl ?_
  refine C.iload_n dJ6_bitCount_0f7a4_25 rfl ?_
  refine C.ic dJ6_bitCount_0f7a4_26 ?_
  refine C.iushr dJ6_bitCount_0f7a4_27 ?_
  refine C.iadd dJ6_bitCount_0f7a4_28 ?_
  refine C.ldcwi dJ6_bitCount_0f7a4_29 kc_J6_267 ?_
  refine C.iand dJ6_bitCount_0f7a4_32 ?_
  show X 0 0 L f 33 _ [.int (bc3 x2)]
  generalize bc3 x2 = x3 at *
  refine C.istore_n dJ6_bitCount_0f7a4_33 (by decide) rfl ?_
  refine C.iload_n dJ6_bitCount_0f7a4_34 rfl ?_
  refine C.iload_n dJ6_bitCount_0f7a4_35 rfl ?_
  refine C.bi dJ6_bitCount_0f7a4_36 (by decide) ?_
  refine C.iushr dJ6_bitCount_0f7a4_38 ?_
  refine C.iadd dJ6_bitCount_0f7a4_39 ?_
  show X 0 0 L f 40 _ [.int (bc4 x3)]
  generalize bc4 x3 = x4 at *
  refine C.istore_n dJ6_bitCount_0f7a4_40 (by decide) rfl ?_
  refine C.iload_n dJ6_bitCount_0f7a4_41 rfl ?_
  refine C.iload_n dJ6_bitCount_0f7a4_42 rfl ?_
  refine C.bi dJ6_bitCount_0f7a4_43 (by decide) ?_
  refine C.iushr dJ6_bitCount_0f7a4_45 ?_
  refine C.iadd dJ6_bitCount_0f7a4_46 ?_
  show X 0 0 L f 47 _ [.int (bc5 x4)]
  generalize bc5 x4 = x5 at *
  refine C.istore_n dJ6_bitCount_0f7a4_47 (by decide) rfl ?_
  refine C.iload_n dJ6_bitCount_0f7a4_48 rfl ?_
  refine C.bi dJ6_bitCount_0f7a4_49 (by decide) ?_
  refine C.iand dJ6_bitCount_0f7a4_51 ?_
  rw [hz]
  exact C.iret rfl rfl dJ6_bitCount_0f7a4_52 (Nat.le_refl _) (Nat.le_refl _) ⟨rfl, rfl, rfl⟩
/-- which way is better of two as dear: fewer turns, then no part, then no turn -/
def kkB (p t e : Bool) : Int := 4 * (b2i p + b2i t + b2i e) + 2 * b2i p + b2i t
theorem b2i_rng (b : Bool) : b2i b = 0 ∨ b2i b = 1 := by cases b <;> simp [b2i]
theorem wyN_rng (p t e : Bool) : 0 ≤ wyN p t e ∧ wyN p t e < 8 := by cases p <;> cases t <;> cases e <;> decide
theorem bcI_wyN (p t e : Bool) : bcI (wyN p t e) = b2i p + b2i t + b2i e := by cases p <;> cases t <;> cases e <;> rfl
theorem s_isFewer {d : Nat} {L : List Nat} {f : Nat → AC} {p t e p' t' e' : Bool} (hd : 1 ≤ d) : AM yX9_isFewer cX9_isFewer 3 (some .boolean) d 0 0 [.int (iI (wyN p t e)), .int (iI (wyN p' t' e'))] L f (SP (some (.int (iI (b2i (decide (kkB p t e < kkB p' t' e')))))) L f) := by
  have c1 := b2i_rng p
  have c2 := b2i_rng t
  have c3 := b2i_rng e
  have c4 := b2i_rng p'
  have c5 := b2i_rng t'
  have c6 := b2i_rng e'
  refine AM.of (by decide +kernel) (by simp [Value.category]) (Nat.le_of_ble_eq_true rfl) false (fun h => by cases h) (fun X C => ?_)
  refine C.iload_n dX9_isFewer_0 rfl ?_
  refine C.callS (j_bitCount (d := d - 1) (wyN_rng p t e)) cw_J6_bitCount_0f7a4 ml_X9_325 sm_J6_bitCount_0f7a4 dX9_isFewer_1 rfl (by omega) (Nat.le_refl _) (Nat.le_refl _) (Nat.le_of_ble_eq_true rfl) rfl (fun r L9 f9 h9 => ?_)
  obtain ⟨rfl, hL9, hf9⟩ := h9
  rw [hL9, hf9]
  clear hL9 hf9
  rw [bcI_wyN]
  refine C.iload_n dX9_isFewer_4 rfl ?_
  refine C.callS (j_bitCount (d := d - 1) (wyN_rng p' t' e')) cw_J6_bitCount_0f7a4 ml_X9_325 sm_J6_bitCount_0f7a4 dX9_isFewer_5 rfl (by omega) (Nat.le_refl _) (Nat.le_refl _) (Nat.le_of_ble_eq_true rfl) rfl (fun r L9 f9 h9 => ?_)
  obtain ⟨rfl, hL9, hf9⟩ := h9
  rw [hL9, hf9]
  clear hL9 hf9
  rw [bcI_wyN]
  refine C.isubI dX9_isFewer_8 ?_
  refine C.istore_n dX9_isFewer_9 (by decide) rfl ?_
  refine C.iload_n dX9_isFewer_10 rfl ?_
  refine C.if_eqI (tgt := 24) dX9_isFewer_11 (by decide) (by omega) (fun hc11 => ?_) (fun hc11 => ?_)
  · refine C.iload_n dX9_isFewer_24 rfl ?_
    refine C.ic dX9_isFewer_25 ?_
    refine C.iand dX9_isFewer_26 ?_
    rw [wy1]
    refine C.iload_n dX9_isFewer_27 rfl ?_
    refine C.ic dX9_isFewer_28 ?_
    refine C.iand dX9_isFewer_29 ?_
    rw [wy1]
    refine C.icmp_eqI (tgt := 45) dX9_isFewer_30 (by decide) (by omega) (by omega) (fun hc30 => ?_) (fun hc30 => ?_)
    · refine C.iload_n dX9_isFewer_45 rfl ?_
      refine C.ic dX9_isFewer_46 ?_
      refine C.iand dX9_isFewer_47 ?_
      rw [wy2]
      refine C.iload_n dX9_isFewer_48 rfl ?_
      refine C.ic dX9_isFewer_49 ?_
      refine C.iand dX9_isFewer_50 ?_
      rw [wy2]
      refine C.icmp_geI (tgt := 58) dX9_isFewer_51 (by decide) (by omega) (by omega) (fun hc51 => ?_) (fun hc51 => ?_)
      · refine C.ic dX9_isFewer_58 ?_
        refine C.retI rfl (by first | rfl | (exact (iI_bool (by first | exact Or.inl rfl | exact Or.inr rfl | assumption)).1)) dX9_isFewer_59 (Nat.le_refl _) (Nat.le_refl _) ⟨?_, rfl, rfl⟩
        congr 3
        unfold kkB
        first | (rw [decide_eq_true (by omega)]; rfl) | (rw [decide_eq_false (by omega)]; rfl)
      · refine C.ic dX9_isFewer_54 ?_
        refine C.goto (tgt := 59) dX9_isFewer_55 (by decide) ?_
        refine C.retI rfl (by first | rfl | (exact (iI_bool (by first | exact Or.inl rfl | exact Or.inr rfl | assumption)).1)) dX9_isFewer_59 (Nat.le_refl _) (Nat.le_refl _) ⟨?_, rfl, rfl⟩
        congr 3
        unfold kkB
        first | (rw [decide_eq_true (by omega)]; rfl) | (rw [decide_eq_false (by omega)]; rfl)
    · refine C.iload_n dX9_isFewer_33 rfl ?_
      refine C.ic dX9_isFewer_34 ?_
      refine C.iand dX9_isFewer_35 ?_
      rw [wy1]
      refine C.if_neI (tgt := 43) dX9_isFewer_36 (by decide) (by omega) (fun hc36 => ?_) (fun hc36 => ?_)
      · refine C.ic dX9_isFewer_43 ?_
        refine C.retI rfl (by first | rfl | (exact (iI_bool (by first | exact Or.inl rfl | exact Or.inr rfl | assumption)).1)) dX9_isFewer_44 (Nat.le_refl _) (Nat.le_refl _) ⟨?_, rfl, rfl⟩
        congr 3
        unfold kkB
        first | (rw [decide_eq_true (by omega)]; rfl) | (rw [decide_eq_false (by omega)]; rfl)
      · refine C.ic dX9_isFewer_39 ?_
        refine C.goto (tgt := 44) dX9_isFewer_40 (by decide) ?_
        refine C.retI rfl (by first | rfl | (exact (iI_bool (by first | exact Or.inl rfl | exact Or.inr rfl | assumption)).1)) dX9_isFewer_44 (Nat.le_refl _) (Nat.le_refl _) ⟨?_, rfl, rfl⟩
        congr 3
        unfold kkB
        first | (rw [decide_eq_true (by omega)]; rfl) | (rw [decide_eq_false (by omega)]; rfl)
  · refine C.iload_n dX9_isFewer_14 rfl ?_
    refine C.if_geI (tgt := 22) dX9_isFewer_15 (by decide) (by omega) (fun hc15 => ?_) (fun hc15 => ?_)
    · refine C.ic dX9_isFewer_22 ?_
      refine C.retI rfl (by first | rfl | (exact (iI_bool (by first | exact Or.inl rfl | exact Or.inr rfl | assumption)).1)) dX9_isFewer_23 (Nat.le_refl _) (Nat.le_refl _) ⟨?_, rfl, rfl⟩
      congr 3
      unfold kkB
      first | (rw [decide_eq_true (by omega)]; rfl) | (rw [decide_eq_false (by omega)]; rfl)
    · refine C.ic dX9_isFewer_18 ?_
      refine C.goto (tgt := 23) dX9_isFewer_19 (by decide) ?_
      refine C.retI rfl (by first | rfl | (exact (iI_bool (by first | exact Or.inl rfl | exact Or.inr rfl | assumption)).1)) dX9_isFewer_23 (Nat.le_refl _) (Nat.le_refl _) ⟨?_, rfl, rfl⟩
      congr 3
      unfold kkB
      first | (rw [decide_eq_true (by omega)]; rfl) | (rw [decide_eq_false (by omega)]; rfl)
