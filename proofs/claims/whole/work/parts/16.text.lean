/-! texts: constants 1000+j, their bytes 1100+j -/
section TEXTS
variable {own : String} {cc : ByteArray} {nL : Nat} {rt : Option FieldType} {ini : Bool} {d mc ms : Nat} {Po : AT} {X : XT} {ce sl pc : Nat} {L : List Nat} {f : Nat → AC} {lv : List (Option Value)} {st : List Value}
theorem Cx.lds (C : Cx own cc nL rt ini d mc ms Po X) {i j : Nat} {tx : String} {bs : List Int32} (dg : decode cc pc = .ok (.ldc i, 2)) (hj : strs[j]? = some (own, i, tx, bs))
    (k : X ce sl L f (pc + 2) lv (.ref (1000 + j) :: st)) : X ce sl L f pc lv st := by
  obtain ⟨p, l, e, s, m, args, below, meth, c, dC, dI, cy, ad, A, Q, w0, ⟨hx, hb, hml, hown, hts⟩, hin0, hK, hA, hE, had, hret, rfl⟩ := C
  intro H locs ls hP hD hS hl
  exact va_ldcS hx hb hown (hE.1 j _ hj).1 dg (k H locs ls hP hD hS hl)
theorem Cx.sval (C : Cx own cc nL rt ini d mc ms Po X) {i j : Nat} {q : String × Nat × String × List Int32} (dg : decode cc pc = .ok (.getfield i, 3)) (hw : Cond.fieldLink own i "java/lang/String" "value" "[B" ∈ Om) (hj : strs[j]? = some q)
    (k : X ce sl L f (pc + 3) lv (.ref (1100 + j) :: st)) : X ce sl L f pc lv (.ref (1000 + j) :: st) := by
  obtain ⟨p, l, e, s, m, args, below, meth, c, dC, dI, cy, ad, A, Q, w0, ⟨hx, hb, hml, hown, hts⟩, hin0, hK, hA, hE, had, hret, rfl⟩ := C
  intro H locs ls hP hD hS hl
  exact vk_getf hx hb (hE.1 j _ hj).2.2.2.1 hS hown (hts _ (List.mem_cons_of_mem _ hw)) (fun _ h => h) dg (k H locs ls hP hD hS hl)
theorem Cx.scod (C : Cx own cc nL rt ini d mc ms Po X) {i j : Nat} {q : String × Nat × String × List Int32} (dg : decode cc pc = .ok (.getfield i, 3)) (hw : Cond.fieldLink own i "java/lang/String" "coder" "B" ∈ Om) (hj : strs[j]? = some q)
    (k : X ce sl L f (pc + 3) lv (.int (iI 0) :: st)) : X ce sl L f pc lv (.ref (1000 + j) :: st) := by
  obtain ⟨p, l, e, s, m, args, below, meth, c, dC, dI, cy, ad, A, Q, w0, ⟨hx, hb, hml, hown, hts⟩, hin0, hK, hA, hE, had, hret, rfl⟩ := C
  intro H locs ls hP hD hS hl
  exact vk_getf hx hb (hE.1 j _ hj).2.2.1 hS hown (hts _ (List.mem_cons_of_mem _ hw)) (fun _ h => h) dg (k H locs ls hP hD hS hl)
theorem Cx.slen (C : Cx own cc nL rt ini d mc ms Po X) {j : Nat} {q : String × Nat × String × List Int32} (dg : decode cc pc = .ok (.arraylength, 1)) (hj : strs[j]? = some q)
    (k : X ce sl L f (pc + 1) lv (.int (iI q.2.2.2.length) :: st)) : X ce sl L f pc lv (.ref (1100 + j) :: st) := by
  obtain ⟨p, l, e, s, m, args, below, meth, c, dC, dI, cy, ad, A, Q, w0, ⟨hx, hb, hml, hown, hts⟩, hin0, hK, hA, hE, had, hret, rfl⟩ := C
  intro H locs ls hP hD hS hl
  exact va_tlen hx hb (hE.1 j _ hj).2.2.2.2 hS (iI_nI _) dg (k H locs ls hP hD hS hl)
theorem Cx.sbyt (C : Cx own cc nL rt ini d mc ms Po X) {j i : Nat} {z : Int} {q : String × Nat × String × List Int32} (dg : decode cc pc = .ok (.baload, 1)) (hj : strs[j]? = some q) (hz : z = (i : Int)) (hi : i < q.2.2.2.length) (hq : q.2.2.2.length < 2147483648)
    (k : X ce sl L f (pc + 1) lv (.int (q.2.2.2.getD i 0) :: st)) : X ce sl L f pc lv (.int (iI z) :: .ref (1100 + j) :: st) := by
  obtain ⟨p, l, e, s, m, args, below, meth, c, dC, dI, cy, ad, A, Q, w0, ⟨hx, hb, hml, hown, hts⟩, hin0, hK, hA, hE, had, hret, rfl⟩ := C
  subst hz
  intro H locs ls hP hD hS hl
  exact va_tb hx hb (hE.1 j _ hj).2.2.2.2 hS (iI_in (by omega) (by omega) hq) (v := .int (q.2.2.2.getD i 0)) (by rw [iI_clamp (by omega)]; rfl) dg (k H locs ls hP hD hS hl)
theorem Cx.gcompact (C : Cx own cc nL rt ini d mc ms Po X) {i : Nat} (dg : decode cc pc = .ok (.getstatic i, 3)) (hw : Cond.fieldLink own i "java/lang/String" "COMPACT_STRINGS" "Z" ∈ Om)
    (k : X ce sl L f (pc + 3) lv (.int (iI 1) :: st)) : X ce sl L f pc lv st := by
  obtain ⟨p, l, e, s, m, args, below, meth, c, dC, dI, cy, ad, A, Q, w0, ⟨hx, hb, hml, hown, hts⟩, hin0, hK, hA, hE, had, hret, rfl⟩ := C
  intro H locs ls hP hD hS hl
  exact va_gets hx hb hE.2.1 hS hown (hts _ (List.mem_cons_of_mem _ hw)) (fun _ h => h) dg (k H locs ls hP hD hS hl)
theorem Cx.gsioobe (C : Cx own cc nL rt ini d mc ms Po X) {i : Nat} (dg : decode cc pc = .ok (.getstatic i, 3)) (hw : Cond.fieldLink own i "jdk/internal/util/Preconditions" "SIOOBE_FORMATTER" "Ljava/util/function/BiFunction;" ∈ Om)
    (k : ∀ v, v = .null ∨ v = .ref 1200 → X ce sl L f (pc + 3) lv (v :: st)) : X ce sl L f pc lv st := by
  obtain ⟨p, l, e, s, m, args, below, meth, c, dC, dI, cy, ad, A, Q, w0, ⟨hx, hb, hml, hown, hts⟩, hin0, hK, hA, hE, had, hret, rfl⟩ := C
  intro H locs ls hP hD hS hl
  rcases hE.2.2.2.1 with h | h
  · exact va_gets hx hb h hS hown (hts _ (List.mem_cons_of_mem _ hw)) (fun _ h => h) dg (k .null (Or.inl rfl) H locs ls hP hD hS hl)
  · exact va_gets hx hb h hS hown (hts _ (List.mem_cons_of_mem _ hw)) (fun _ h => h) dg (k (.ref 1200) (Or.inr rfl) H locs ls hP hD hS hl)
theorem Cx.i2c (C : Cx own cc nL rt ini d mc ms Po X) {z : Int} (dg : decode cc pc = .ok (.i2c, 1)) (hz : 0 ≤ z ∧ z < 65536)
    (k : X ce sl L f (pc + 1) lv (.int (iI z) :: st)) : X ce sl L f pc lv (.int (iI z) :: st) := by
  obtain ⟨p, l, e, s, m, args, below, meth, c, dC, dI, cy, ad, A, Q, w0, ⟨hx, hb, hml, hown, hts⟩, hin0, hK, hA, hE, had, hret, rfl⟩ := C
  intro H locs ls hP hD hS hl
  refine lv_i2c hx hb dg (v := iI z) ?_ (k H locs ls hP hD hS hl)
  obtain ⟨n, rfl⟩ : ∃ n : Nat, z = n := ⟨z.toNat, by omega⟩
  rw [← iI_nI, pk_char, pk_tn (by omega), Nat.mod_eq_of_lt (by omega)]
/-- a call of a text's method -/
theorem Cx.callT (C : Cx own cc nL rt ini d mc ms Po X) {y : MethodName} {cc2 : ByteArray} {nL2 : Nat} {rt2 : Option FieldType} {d2 mc2 ms2 idx n j : Nat} {q : String × Nat × String × List Int32} {as : List Value} {Po2 : AT} (M : AM y cc2 nL2 rt2 d2 mc2 ms2 (.ref (1000 + j) :: as) L f Po2) (cw : CW y cc2 nL2 rt2 n) (w1 : Cond.methodLink own idx y ∈ Om) (w2 : Cond.instanceMethod y ∈ Om) (w3 : Cond.selects y.cls y y ∈ Om) (dg : decode cc pc = .ok (.invokevirtual idx, 3)) (hj : strs[j]? = some q) (hc : y.cls = "java/lang/String") (hn : as.length = n) (hd : d2 + 1 ≤ d) (h1 : ce + mc2 ≤ mc) (h2 : sl + ms2 ≤ ms) (hs : (st.map fun v => v.category).sum ≤ 8) {st0 : List Value} (hst : st0 = as.reverse ++ .ref (1000 + j) :: st)
    (kk : ∀ (r : Option Value) (L' : List Nat) (f' : Nat → AC), Po2 r L' f' → X (ce + mc2) (sl + ms2) L' f' (pc + 3) lv (r.toList ++ st)) : X ce sl L f pc lv st0 := by
  obtain ⟨p, l, e, s, m, args, below, meth, c, dC, dI, cy, ad, A, Q, w0, ⟨hx, hb, hml, hown, hts⟩, hin0, hK, hA, hE, had, hret, rfl⟩ := C
  intro H locs ls hP hD hS hl
  subst hst
  obtain ⟨c1, c2, c3, c4, c5, c6⟩ := cw
  have hg : GoodIn (w0 :: Om) (wsV own idx y.cls y (Cond.code y cc2 nL2 rt2 :: Om)) := by
    intro w hw
    rcases List.mem_append.mp hw with h | h
    · simp only [List.mem_cons, List.not_mem_nil, or_false] at h
      rcases h with rfl | rfl | rfl | rfl
      · exact Om_w w1
      · exact Om_w w2
      · exact Om_w w3
      · exact Om_w c1
    · rcases List.mem_cons.mp h with rfl | h
      · exact Om_w c2
      · exact Om_w h
  have hrec : ∃ cell : Cell, H[ad (1000 + j)]? = some cell ∧ cell.vm.isStatics = false ∧ s.vm.findClass y.cls = some cell.cls := by
    obtain ⟨cell, q1, q2, q3, q4⟩ := (hE.1 j _ hj).2.1
    exact ⟨cell, by rw [hS.2.1 _ (Array.getElem?_eq_some_iff.mp q1).1 q4]; exact q1, q2, by rw [hc]; exact q3⟩
  refine call_go (a := #[]) (va_runV (As := as.map (rv ad)) (rest := st.map (rv ad)) (b := ad (1000 + j)) (C := y.cls) ⟨hx, hb, hml, hown, hts⟩ (M l dC dI cy ad H.size had) (cwV n hts hg rfl rfl rfl ⟨rfl, c3, c4, c5⟩ ⟨hd, by show 8 + (nL2 + 11) + (64 * d2 + 12) ≤ 64 * d + 12; omega⟩) ⟨call_fb, hrec, call_pre hP hD hS hA hK hE⟩ rfl (by rw [List.length_map]; exact hn) hl.1 ?_ (lv_room (cat_sum hs)) dg ⟨h1, h2⟩) hD hS hA hl kk
  show (as.reverse ++ .ref (1000 + j) :: st).map (rv ad) = _
  rw [List.map_append, List.map_reverse]
  rfl
end TEXTS
/-- an answer, and nothing changed -/
def SP (v : Option Value) (L : List Nat) (f : Nat → AC) : AT := fun r L' f' => r = v ∧ L' = L ∧ f' = f
theorem j_coder {d : Nat} {L : List Nat} {f : Nat → AC} {j : Nat} {q : String × Nat × String × List Int32} (hj : strs[j]? = some q) : AM yJ0_coder_7d493 cJ0_coder_7d493 1 (some .byte) d 0 0 [.ref (1000 + j)] L f (SP (some (.int (iI 0))) L f) := by
  refine AM.of (by decide +kernel) (by simp [Value.category]) (Nat.le_of_ble_eq_true rfl) false (fun h => by cases h) (fun X C => ?_)
  refine C.gcompact dJ0_coder_7d493_0 (om_wsL_law0_r9 _ (List.mem_of_getElem? (i := 14) rfl)) ?_
  refine C.if_eqI (tgt := 13) dJ0_coder_7d493_3 (by decide) (by omega) (fun h => absurd h (by omega)) (fun _ => ?_)
  refine C.aload_n dJ0_coder_7d493_6 rfl ?_
  refine C.scod dJ0_coder_7d493_7 (om_wsL_law0_r9 _ (List.mem_of_getElem? (i := 15) rfl)) hj ?_
  refine C.goto (tgt := 14) dJ0_coder_7d493_10 (by decide) ?_
  exact C.retI rfl (by decide) dJ0_coder_7d493_14 (Nat.le_refl _) (Nat.le_refl _) ⟨rfl, rfl, rfl⟩
theorem j_isLatin1 {d : Nat} {L : List Nat} {f : Nat → AC} {j : Nat} {q : String × Nat × String × List Int32} (hj : strs[j]? = some q) : AM yJ0_isLatin1_aae02 cJ0_isLatin1_aae02 1 (some .boolean) d 0 0 [.ref (1000 + j)] L f (SP (some (.int (iI 1))) L f) := by
  refine AM.of (by decide +kernel) (by simp [Value.category]) (Nat.le_of_ble_eq_true rfl) false (fun h => by cases h) (fun X C => ?_)
  refine C.gcompact dJ0_isLatin1_aae02_0 (om_wsL_law0_r9 _ (List.mem_of_getElem? (i := 14) rfl)) ?_
  refine C.if_eqI (tgt := 17) dJ0_isLatin1_aae02_3 (by decide) (by omega) (fun h => absurd h (by omega)) (fun _ => ?_)
  refine C.aload_n dJ0_isLatin1_aae02_6 rfl ?_
  refine C.scod dJ0_isLatin1_aae02_7 (om_wsL_law0_r9 _ (List.mem_of_getElem? (i := 15) rfl)) hj ?_
  refine C.if_neI (tgt := 17) dJ0_isLatin1_aae02_10 (by decide) (by omega) (fun h => absurd rfl h) (fun _ => ?_)
  refine C.ic dJ0_isLatin1_aae02_13 ?_
  refine C.goto (tgt := 18) dJ0_isLatin1_aae02_14 (by decide) ?_
  exact C.retI rfl (by decide) dJ0_isLatin1_aae02_18 (Nat.le_refl _) (Nat.le_refl _) ⟨rfl, rfl, rfl⟩
theorem j_length {d : Nat} (hd : 1 ≤ d) {L : List Nat} {f : Nat → AC} {j : Nat} {q : String × Nat × String × List Int32} (hj : strs[j]? = some q) : AM yJ0_length_8abf5 cJ0_length_8abf5 1 (some .int) d 0 0 [.ref (1000 + j)] L f (SP (some (.int (iI q.2.2.2.length))) L f) := by
  refine AM.of (by decide +kernel) (by simp [Value.category]) (Nat.le_of_ble_eq_true rfl) false (fun h => by cases h) (fun X C => ?_)
  refine C.aload_n dJ0_length_8abf5_0 rfl ?_
  refine C.sval dJ0_length_8abf5_1 (om_wsL_law0_r9 _ (List.mem_of_getElem? (i := 9) rfl)) hj ?_
  refine C.slen dJ0_length_8abf5_4 hj ?_
  refine C.aload_n dJ0_length_8abf5_5 rfl ?_
  refine C.callT (j_coder (d := 0) hj) cw_J0_coder_7d493 ml_J0_335 im_J0_coder_7d493 sl_J0_coder_7d493 dJ0_length_8abf5_6 hj rfl rfl hd (Nat.le_refl _) (Nat.le_refl _) (Nat.le_of_ble_eq_true rfl) rfl (fun r L' f' h => ?_)
  obtain ⟨rfl, rfl, rfl⟩ := h
  refine C.ishr dJ0_length_8abf5_9 ?_
  refine C.topi (b := iI q.2.2.2.length) ?_ ?_
  · rw [iI_0]
    exact Int32.shiftRight_zero
  exact C.retI rfl rfl dJ0_length_8abf5_10 (Nat.le_refl _) (Nat.le_refl _) ⟨rfl, rfl, rfl⟩
theorem j_pcheck {d : Nat} {L : List Nat} {f : Nat → AC} {i n : Nat} {v : Value} (hv : v = .null ∨ v = .ref 1200) (hi : i < n) (hn : n < 2147483648) : AM yJ3_checkIndex_8e157 cJ3_checkIndex_8e157 3 (some .int) d 0 0 [.int (iI i), .int (iI n), v] L f (SP (some (.int (iI i))) L f) := by
  refine AM.of (by decide +kernel) (by rcases hv with rfl | rfl <;> simp [Value.category]) (Nat.le_of_ble_eq_true rfl) false (fun h => by cases h) (fun X C => ?_)
  refine C.iload_n dJ3_checkIndex_8e157_0 rfl ?_
  refine C.if_ltI (tgt := 9) dJ3_checkIndex_8e157_1 (by decide) (by omega) (fun h => absurd h (by omega)) (fun _ => ?_)
  refine C.iload_n dJ3_checkIndex_8e157_4 rfl ?_
  refine C.iload_n dJ3_checkIndex_8e157_5 rfl ?_
  refine C.icmp_ltI (tgt := 16) dJ3_checkIndex_8e157_6 (by decide) (by omega) (by omega) (fun _ => ?_) (fun h => absurd h (by omega))
  refine C.iload_n dJ3_checkIndex_8e157_16 rfl ?_
  exact C.retI rfl rfl dJ3_checkIndex_8e157_17 (Nat.le_refl _) (Nat.le_refl _) ⟨rfl, rfl, rfl⟩
theorem j_scheck {d : Nat} (hd : 1 ≤ d) {L : List Nat} {f : Nat → AC} {i n : Nat} (hi : i < n) (hn : n < 2147483648) : AM yJ0_checkIndex_df160 cJ0_checkIndex_df160 2 none d 0 0 [.int (iI i), .int (iI n)] L f (SP none L f) := by
  refine AM.of (by decide +kernel) (by simp [Value.category]) (Nat.le_of_ble_eq_true rfl) false (fun h => by cases h) (fun X C => ?_)
  refine C.iload_n dJ0_checkIndex_df160_0 rfl ?_
  refine C.iload_n dJ0_checkIndex_df160_1 rfl ?_
  refine C.gsioobe dJ0_checkIndex_df160_2 (om_wsL_law0_r10 _ (List.mem_of_getElem? (i := 7) rfl)) (fun v hv => ?_)
  refine C.callS (j_pcheck (d := 0) hv hi hn) cw_J3_checkIndex_8e157 ml_J0_1059 sm_J3_checkIndex_8e157 dJ0_checkIndex_df160_5 rfl hd (Nat.le_refl _) (Nat.le_refl _) (Nat.le_of_ble_eq_true rfl) rfl (fun r L' f' h => ?_)
  obtain ⟨rfl, rfl, rfl⟩ := h
  refine C.pop dJ0_checkIndex_df160_8 rfl ?_
  exact C.vret rfl dJ0_checkIndex_df160_9 (Nat.le_refl _) (Nat.le_refl _) ⟨rfl, rfl, rfl⟩
theorem iI_and255 {z : Int} (h : 0 ≤ z ∧ z < 256) : iI z &&& iI 255 = iI z := by
  obtain ⟨n, rfl⟩ : ∃ n : Nat, z = n := ⟨z.toNat, by omega⟩
  rw [← iI_nI, pk_andN (by omega) 8 (by decide), Nat.mod_eq_of_lt (by omega)]
theorem j_lcharAt {d : Nat} (hd : 2 ≤ d) {L : List Nat} {f : Nat → AC} {i j : Nat} {z : Int} {q : String × Nat × String × List Int32} (hj : strs[j]? = some q) (hi : i < q.2.2.2.length) (hq : q.2.2.2.length < 2147483648) (hz : q.2.2.2.getD i 0 = iI z) (hz2 : 0 ≤ z ∧ z < 128) : AM yJ1_charAt_3b067 cJ1_charAt_3b067 2 (some .char) d 0 0 [.ref (1100 + j), .int (iI i)] L f (SP (some (.int (iI z))) L f) := by
  refine AM.of (by decide +kernel) (by simp [Value.category]) (Nat.le_of_ble_eq_true rfl) false (fun h => by cases h) (fun X C => ?_)
  refine C.iload_n dJ1_charAt_3b067_0 rfl ?_
  refine C.aload_n dJ1_charAt_3b067_1 rfl ?_
  refine C.slen dJ1_charAt_3b067_2 hj ?_
  refine C.callS (j_scheck (d := 1) (Nat.le_refl _) hi hq) cw_J0_checkIndex_df160 ml_J1_9 sm_J0_checkIndex_df160 dJ1_charAt_3b067_3 rfl hd (Nat.le_refl _) (Nat.le_refl _) (Nat.le_of_ble_eq_true rfl) rfl (fun r L' f' h => ?_)
  obtain ⟨rfl, rfl, rfl⟩ := h
  refine C.aload_n dJ1_charAt_3b067_6 rfl ?_
  refine C.iload_n dJ1_charAt_3b067_7 rfl ?_
  refine C.sbyt dJ1_charAt_3b067_8 hj rfl hi hq ?_
  rw [hz]
  refine C.si dJ1_charAt_3b067_9 (by decide) ?_
  refine C.iand dJ1_charAt_3b067_12 ?_
  refine C.topi (iI_and255 (by omega)) ?_
  refine C.i2c dJ1_charAt_3b067_13 (by omega) ?_
  refine C.retI rfl ?_ dJ1_charAt_3b067_14 (Nat.le_refl _) (Nat.le_refl _) ⟨rfl, rfl, rfl⟩
  obtain ⟨n, rfl⟩ : ∃ n : Nat, z = n := ⟨z.toNat, by omega⟩
  rw [← iI_nI]
  exact (pk_charN (by omega)).1
theorem j_charAt {d : Nat} (hd : 3 ≤ d) {L : List Nat} {f : Nat → AC} {i j : Nat} {z : Int} {q : String × Nat × String × List Int32} (hj : strs[j]? = some q) (hi : i < q.2.2.2.length) (hq : q.2.2.2.length < 2147483648) (hz : q.2.2.2.getD i 0 = iI z) (hz2 : 0 ≤ z ∧ z < 128) : AM yJ0_charAt_5068e cJ0_charAt_5068e 2 (some .char) d 0 0 [.ref (1000 + j), .int (iI i)] L f (SP (some (.int (iI z))) L f) := by
  refine AM.of (by decide +kernel) (by simp [Value.category]) (Nat.le_of_ble_eq_true rfl) false (fun h => by cases h) (fun X C => ?_)
  refine C.aload_n dJ0_charAt_5068e_0 rfl ?_
  refine C.callT (j_isLatin1 (d := 0) hj) cw_J0_isLatin1_aae02 ml_J0_492 im_J0_isLatin1_aae02 sl_J0_isLatin1_aae02 dJ0_charAt_5068e_1 hj rfl rfl (by omega) (Nat.le_refl _) (Nat.le_refl _) (Nat.le_of_ble_eq_true rfl) rfl (fun r L' f' h => ?_)
  obtain ⟨rfl, rfl, rfl⟩ := h
  refine C.if_eqI (tgt := 16) dJ0_charAt_5068e_4 (by decide) (by omega) (fun h => absurd h (by omega)) (fun _ => ?_)
  refine C.aload_n dJ0_charAt_5068e_7 rfl ?_
  refine C.sval dJ0_charAt_5068e_8 (om_wsL_law0_r9 _ (List.mem_of_getElem? (i := 9) rfl)) hj ?_
  refine C.iload_n dJ0_charAt_5068e_11 rfl ?_
  refine C.callS (j_lcharAt (d := 2) (Nat.le_refl _) hj hi hq hz hz2) cw_J1_charAt_3b067 ml_J0_495 sm_J1_charAt_3b067 dJ0_charAt_5068e_12 rfl (by omega) (Nat.le_refl _) (Nat.le_refl _) (Nat.le_of_ble_eq_true rfl) rfl (fun r L' f' h => ?_)
  obtain ⟨rfl, rfl, rfl⟩ := h
  refine C.retI rfl ?_ dJ0_charAt_5068e_15 (Nat.le_refl _) (Nat.le_refl _) ⟨rfl, rfl, rfl⟩
  obtain ⟨n, rfl⟩ : ∃ n : Nat, z = n := ⟨z.toNat, by omega⟩
  rw [← iI_nI]
  exact (pk_charN (by omega)).1
