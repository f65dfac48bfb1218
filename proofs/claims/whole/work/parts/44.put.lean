/-! the writer: texts as lists of bytes; f tells whether a blank comes first -/
def sp (f : Bool) : List Int := if f then [32] else []
theorem iI_i2b {x : Int} (h : -128 ≤ x ∧ x < 128) : (iI x).toInt8.toInt32 = iI x := by
  have := iI_byte h
  rwa [vp_nar_byte] at this
/-- the int fields of writing: where in a row, bytes, words, whether behind an open sign; the others are as they were -/
def Wv (sf sf' : SF) (a n w o : Int) : Prop := (∀ j, j ≠ 18 → j ≠ 29 → j ≠ 30 → j ≠ 31 → sf' j = sf j) ∧ sf' 18 = a ∧ sf' 29 = n ∧ sf' 30 = w ∧ sf' 31 = o
theorem Wv.tr {s1 s2 s3 : SF} {a n w o a2 n2 w2 o2 : Int} (h1 : Wv s1 s2 a n w o) (h2 : Wv s2 s3 a2 n2 w2 o2) : Wv s1 s3 a2 n2 w2 o2 :=
  ⟨fun j q1 q2 q3 q4 => (h2.1 j q1 q2 q3 q4).trans (h1.1 j q1 q2 q3 q4), h2.2⟩
theorem Wv.up18 {s1 s2 : SF} {a n w o v : Int} (h : Wv s1 s2 a n w o) : Wv s1 (va_up s2 18 v) v n w o :=
  ⟨fun j q1 q2 q3 q4 => by rw [va_up_ne _ _ q1]; exact h.1 j q1 q2 q3 q4, va_up_self _ _ _, h.2.2.1, h.2.2.2.1, h.2.2.2.2⟩
theorem Wv.up29 {s1 s2 : SF} {a n w o v : Int} (h : Wv s1 s2 a n w o) : Wv s1 (va_up s2 29 v) a v w o :=
  ⟨fun j q1 q2 q3 q4 => by rw [va_up_ne _ _ q2]; exact h.1 j q1 q2 q3 q4, h.2.1, va_up_self _ _ _, h.2.2.2.1, h.2.2.2.2⟩
theorem Wv.up30 {s1 s2 : SF} {a n w o v : Int} (h : Wv s1 s2 a n w o) : Wv s1 (va_up s2 30 v) a n v o :=
  ⟨fun j q1 q2 q3 q4 => by rw [va_up_ne _ _ q3]; exact h.1 j q1 q2 q3 q4, h.2.1, h.2.2.1, va_up_self _ _ _, h.2.2.2.2⟩
theorem Wv.up31 {s1 s2 : SF} {a n w o v : Int} (h : Wv s1 s2 a n w o) : Wv s1 (va_up s2 31 v) a n w v :=
  ⟨fun j q1 q2 q3 q4 => by rw [va_up_ne _ _ q4]; exact h.1 j q1 q2 q3 q4, h.2.1, h.2.2.1, h.2.2.2.1, va_up_self _ _ _⟩
theorem Wv.rf {s : SF} {a n w o : Int} (h1 : s 18 = a) (h2 : s 29 = n) (h3 : s 30 = w) (h4 : s 31 = o) : Wv s s a n w o := ⟨fun _ _ _ _ _ => rfl, h1, h2, h3, h4⟩
set_option maxRecDepth 20000 in
theorem m_put {d n j : Nat} {zs : List Int} {bk : Bool} {a w o : Int} (hd : 4 ≤ d) {s0 sf : SF} {sa : SA} (hW : Wv s0 sf a n w o) (ht : TX j zs) (hr : n + 1 + zs.length ≤ 9000) : MM yX9_put cX9_put 4 none d [.ref (1000 + j), .int (iI (b2i bk))] sf sa (fun r sf' sa' => r = none ∧ Wv s0 sf' a ((n + (sp (bk && decide (0 < n)) ++ zs).length : Nat) : Int) w o ∧ sa' = wrS sa 34 n (sp (bk && decide (0 < n)) ++ zs)) := by
  obtain ⟨⟨q, hj, hq⟩, hzr, hzl⟩ := ht
  have hql : q.2.2.2.length = zs.length := by rw [hq, List.length_map]
  refine MM.of2 (by decide +kernel) rfl (Nat.le_of_ble_eq_true rfl) (fun L g hL X C => ?_)
  have loop : ∀ (n0 : Nat) (sa0 : SA), n0 + zs.length ≤ 9000 → (∀ sfc, Wv s0 sfc a ((n0 + zs.length : Nat) : Int) w o → ∀ v, X 0 0 L (ov sfc (wrS sa0 34 n0 zs) g) 73 [some (.ref 20), some (.ref (1000 + j)), some (.int (iI (b2i bk))), v] []) → ∀ (m k : Nat) (sfc : SF), k + m = zs.length → Wv s0 sfc a ((n0 + k : Nat) : Int) w o → X 0 0 L (ov sfc (wrS sa0 34 n0 (zs.take k)) g) 34 [some (.ref 20), some (.ref (1000 + j)), some (.int (iI (b2i bk))), some (.int (iI k))] [] := by
    intro n0 sa0 hn0 hX m
    induction m with
    | zero =>
      intro k sfc hk hw
      rw [List.take_of_length_le (by omega)]
      obtain rfl : k = zs.length := by omega
      refine C.iload_n dX9_put_34 rfl ?_
      refine C.aload_n dX9_put_35 rfl ?_
      refine C.callT (j_length (d := d - 1) (by omega) hj) cw_J0_length_8abf5 ml_X9_115 im_J0_length_8abf5 sl_J0_length_8abf5 dX9_put_36 hj rfl rfl (by omega) (Nat.le_refl _) (Nat.le_refl _) (Nat.le_of_ble_eq_true rfl) rfl (fun r L9 f9 h9 => ?_)
      obtain ⟨rfl, hL9, hf9⟩ := h9
      rw [hL9, hf9]
      clear hL9 hf9
      refine C.icmp_geI (tgt := 73) dX9_put_39 (by decide) (by omega) (by omega) (fun hc39 => ?_) (fun hc39 => absurd hc39 (by omega))
      exact hX sfc hw _
    | succ m ih =>
      intro k sfc hk hw
      have hz := hzr (zs.getD k 0) (by rw [List.getD_eq_getElem?_getD, List.getElem?_eq_getElem (by omega)]; exact List.getElem_mem _)
      have hzz : q.2.2.2.getD k 0 = iI (zs.getD k 0) := by rw [hq]; exact getD_iI (by omega)
      have h29 := hw.2.2.1
      refine C.iload_n dX9_put_34 rfl ?_
      refine C.aload_n dX9_put_35 rfl ?_
      refine C.callT (j_length (d := d - 1) (by omega) hj) cw_J0_length_8abf5 ml_X9_115 im_J0_length_8abf5 sl_J0_length_8abf5 dX9_put_36 hj rfl rfl (by omega) (Nat.le_refl _) (Nat.le_refl _) (Nat.le_of_ble_eq_true rfl) rfl (fun r L9 f9 h9 => ?_)
      obtain ⟨rfl, hL9, hf9⟩ := h9
      rw [hL9, hf9]
      clear hL9 hf9
      refine C.icmp_geI (tgt := 73) dX9_put_39 (by decide) (by omega) (by omega) (fun hc39 => absurd hc39 (by omega)) (fun hc39 => ?_)
      refine C.aload_n dX9_put_42 rfl ?_
      refine C.mget hL gf_X9_56 dX9_put_43 rfl ?_
      refine C.aload_n dX9_put_46 rfl ?_
      refine C.mget hL gf_X9_235 dX9_put_47 rfl ?_
      refine C.topI (b := ((n0 + k : Nat) : Int)) h29 ?_
      refine C.aload_n dX9_put_50 rfl ?_
      refine C.iload_n dX9_put_51 rfl ?_
      refine C.callT (j_charAt (d := d - 1) (by omega) hj (by omega) (by omega) hzz hz) cw_J0_charAt_5068e ml_X9_120 im_J0_charAt_5068e sl_J0_charAt_5068e dX9_put_52 hj rfl rfl (by omega) (Nat.le_refl _) (Nat.le_refl _) (Nat.le_of_ble_eq_true rfl) rfl (fun r L9 f9 h9 => ?_)
      obtain ⟨rfl, hL9, hf9⟩ := h9
      rw [hL9, hf9]
      clear hL9 hf9
      refine C.i2b dX9_put_55 ?_
      rw [iI_i2b (by omega)]
      refine C.mastbk hL (k := n0 + k) (ovs_34 _ _ _) dX9_put_56 (by decide) rfl (by decide) (by omega) (by omega) (by omega) ?_
      rw [wrS_one]
      refine C.aload_n dX9_put_57 rfl ?_
      refine C.dup dX9_put_58 rfl ?_
      refine C.mget hL gf_X9_235 dX9_put_59 rfl ?_
      refine C.topI (b := ((n0 + k : Nat) : Int)) h29 ?_
      refine C.ic dX9_put_62 ?_
      refine C.iaddI dX9_put_63 ?_
      refine C.mput hL pf_X9_235 dX9_put_64 (by decide) rfl ?_
      refine C.iincI dX9_put_67 rfl (by decide) rfl ?_
      refine C.goto (tgt := 34) dX9_put_70 (by decide) ?_
      have e : wrS (wrS sa0 34 n0 (zs.take k)) 34 (n0 + k) [zs.getD k 0] = wrS sa0 34 n0 (zs.take (k + 1)) := by
        rw [List.take_succ_eq_append_getElem (by omega), ← wrS_app, List.length_take, Nat.min_eq_left (by omega), List.getD_eq_getElem?_getD, List.getElem?_eq_getElem (by omega)]
        rfl
      rw [e]
      exact ih (k + 1) _ (by omega) hw.up29
  have fin : ∀ sfc, (Wv s0 sfc a ((n + (sp (bk && decide (0 < n)) ++ zs).length : Nat) : Int) w o) → ∀ v, X 0 0 L (ov sfc (wrS sa 34 n (sp (bk && decide (0 < n)) ++ zs)) g) 73 [some (.ref 20), some (.ref (1000 + j)), some (.int (iI (b2i bk))), v] [] := by
    intro sfc hw v
    refine C.vret rfl dX9_put_73 (Nat.le_refl _) (Nat.le_refl _) ⟨_, _, ?_, rfl, rfl⟩
    exact ⟨rfl, hw, rfl⟩
  have noB : (bk && decide (0 < n)) = false → X 0 0 L (ov sf sa g) 32 [some (.ref 20), some (.ref (1000 + j)), some (.int (iI (b2i bk))), none] [] := by
    intro hb
    rw [hb] at fin
    have := loop n sa (by omega) fin zs.length 0 sf (by omega) hW
    rw [List.take_zero, wrS_nil] at this
    refine C.ic dX9_put_32 ?_
    refine C.istore_n dX9_put_33 (by decide) rfl ?_
    exact this
  have h29 := hW.2.2.1
  cases hb : bk with
  | false =>
    subst hb
    have := noB rfl
    refine C.iload_n dX9_put_0 rfl ?_
    refine C.if_eqI (tgt := 32) dX9_put_1 (by decide) (by decide) (fun hc1 => ?_) (fun hc1 => absurd hc1 (fun h => h rfl))
    exact this
  | true =>
    subst hb
    by_cases hn : 0 < n
    · rw [show (true && decide (0 < n)) = true by simp [hn]] at fin
      have := loop (n + 1) (wrS sa 34 n [32]) (by omega) (fun sfc hw v => by
        have e : wrS (wrS sa 34 n [32]) 34 (n + 1) zs = wrS sa 34 n (sp true ++ zs) := wrS_app (xs := [32])
        rw [e]
        refine fin sfc ?_ v
        rw [show n + (sp true ++ zs).length = n + 1 + zs.length by simp [sp]; omega]
        exact hw) zs.length 0 (va_up sf 29 ((n : Int) + 1)) (by omega) hW.up29
      rw [List.take_zero, wrS_nil] at this
      refine C.iload_n dX9_put_0 rfl ?_
      refine C.if_eqI (tgt := 32) dX9_put_1 (by decide) (by decide) (fun hc1 => absurd hc1 (by decide)) (fun hc1 => ?_)
      refine C.aload_n dX9_put_4 rfl ?_
      refine C.mget hL gf_X9_235 dX9_put_5 rfl ?_
      refine C.topI (b := (n : Int)) h29 ?_
      refine C.if_leI (tgt := 32) dX9_put_8 (by decide) (by omega) (fun hc8 => absurd hc8 (by omega)) (fun hc8 => ?_)
      refine C.aload_n dX9_put_11 rfl ?_
      refine C.mget hL gf_X9_56 dX9_put_12 rfl ?_
      refine C.aload_n dX9_put_15 rfl ?_
      refine C.mget hL gf_X9_235 dX9_put_16 rfl ?_
      refine C.topI (b := (n : Int)) h29 ?_
      refine C.bi dX9_put_19 (by decide) ?_
      refine C.mastbk hL (ovs_34 _ _ _) dX9_put_21 (by decide) rfl (by decide) rfl (by omega) (by omega) ?_
      rw [wrS_one]
      refine C.aload_n dX9_put_22 rfl ?_
      refine C.dup dX9_put_23 rfl ?_
      refine C.mget hL gf_X9_235 dX9_put_24 rfl ?_
      refine C.topI (b := (n : Int)) h29 ?_
      refine C.ic dX9_put_27 ?_
      refine C.iaddI dX9_put_28 ?_
      refine C.mput hL pf_X9_235 dX9_put_29 (by decide) rfl ?_
      refine C.ic dX9_put_32 ?_
      refine C.istore_n dX9_put_33 (by decide) rfl ?_
      exact this
    · have := noB (by simp [hn])
      refine C.iload_n dX9_put_0 rfl ?_
      refine C.if_eqI (tgt := 32) dX9_put_1 (by decide) (by decide) (fun hc1 => absurd hc1 (by decide)) (fun hc1 => ?_)
      refine C.aload_n dX9_put_4 rfl ?_
      refine C.mget hL gf_X9_235 dX9_put_5 rfl ?_
      refine C.topI (b := (n : Int)) h29 ?_
      refine C.if_leI (tgt := 32) dX9_put_8 (by decide) (by omega) (fun hc8 => ?_) (fun hc8 => absurd hc8 (by omega))
      exact this
theorem m_putWord {d n j : Nat} {zs : List Int} {bo : Bool} {a : Int} {w : Nat} (hd : 5 ≤ d) {s0 sf : SF} {sa : SA} (hW : Wv s0 sf a n w (b2i bo)) (ht : TX j zs) (hr : n + 1 + zs.length ≤ 9000) : MM yX9_putWord cX9_putWord 2 none d [.ref (1000 + j)] sf sa (fun r sf' sa' => r = none ∧ Wv s0 sf' a ((n + (sp (!bo && decide (0 < n)) ++ zs).length : Nat) : Int) ((w + 1 : Nat) : Int) 0 ∧ sa' = wrS sa 34 n (sp (!bo && decide (0 < n)) ++ zs)) := by
  have hM := m_put (d := d - 1) (bk := !bo) (sa := sa) (by omega) hW ht hr
  have h31 := hW.2.2.2.2
  refine MM.of2 (by decide +kernel) rfl (Nat.le_of_ble_eq_true rfl) (fun L g hL X C => ?_)
  cases bo with
  | true =>
    refine C.aload_n dX9_putWord_0 rfl ?_
    refine C.aload_n dX9_putWord_1 rfl ?_
    refine C.aload_n dX9_putWord_2 rfl ?_
    refine C.mget hL gf_X9_238 dX9_putWord_3 rfl ?_
    refine C.topI (b := 1) h31 ?_
    refine C.if_neI (tgt := 13) dX9_putWord_6 (by decide) (by omega) (fun hc6 => ?_) (fun hc6 => absurd hc6 (by decide))
    refine C.ic dX9_putWord_13 ?_
    refine C.mcall hL (hM) cw_X9_put ml_X9_241 im_X9_put sl_X9_put dX9_putWord_14 rfl rfl (by omega) (Nat.le_refl _) (Nat.le_refl _) (Nat.le_of_ble_eq_true rfl) rfl (fun r14 sf14 sa14 hR14 => ?_)
    obtain ⟨rfl, hs, ha⟩ := hR14
    rw [ha]
    clear ha
    refine C.aload_n dX9_putWord_17 rfl ?_
    refine C.ic dX9_putWord_18 ?_
    refine C.mputz hL pf_X9_238 dX9_putWord_19 (by decide) (by first | exact Or.inl rfl | exact Or.inr rfl | assumption) rfl ?_
    refine C.aload_n dX9_putWord_22 rfl ?_
    refine C.dup dX9_putWord_23 rfl ?_
    refine C.mget hL gf_X9_245 dX9_putWord_24 rfl ?_
    refine C.topI (b := (w : Int)) hs.2.2.2.1 ?_
    refine C.ic dX9_putWord_27 ?_
    refine C.iaddI dX9_putWord_28 ?_
    refine C.mput hL pf_X9_245 dX9_putWord_29 (by decide) rfl ?_
    refine C.vret rfl dX9_putWord_32 (Nat.le_refl _) (Nat.le_refl _) ⟨_, _, ?_, rfl, rfl⟩
    exact ⟨rfl, hs.up31.up30, rfl⟩
  | false =>
    refine C.aload_n dX9_putWord_0 rfl ?_
    refine C.aload_n dX9_putWord_1 rfl ?_
    refine C.aload_n dX9_putWord_2 rfl ?_
    refine C.mget hL gf_X9_238 dX9_putWord_3 rfl ?_
    refine C.topI (b := 0) h31 ?_
    refine C.if_neI (tgt := 13) dX9_putWord_6 (by decide) (by omega) (fun hc6 => absurd hc6 (fun h => h rfl)) (fun hc6 => ?_)
    refine C.ic dX9_putWord_9 ?_
    refine C.goto (tgt := 14) dX9_putWord_10 (by decide) ?_
    refine C.mcall hL (hM) cw_X9_put ml_X9_241 im_X9_put sl_X9_put dX9_putWord_14 rfl rfl (by omega) (Nat.le_refl _) (Nat.le_refl _) (Nat.le_of_ble_eq_true rfl) rfl (fun r14 sf14 sa14 hR14 => ?_)
    obtain ⟨rfl, hs, ha⟩ := hR14
    rw [ha]
    clear ha
    refine C.aload_n dX9_putWord_17 rfl ?_
    refine C.ic dX9_putWord_18 ?_
    refine C.mputz hL pf_X9_238 dX9_putWord_19 (by decide) (by first | exact Or.inl rfl | exact Or.inr rfl | assumption) rfl ?_
    refine C.aload_n dX9_putWord_22 rfl ?_
    refine C.dup dX9_putWord_23 rfl ?_
    refine C.mget hL gf_X9_245 dX9_putWord_24 rfl ?_
    refine C.topI (b := (w : Int)) hs.2.2.2.1 ?_
    refine C.ic dX9_putWord_27 ?_
    refine C.iaddI dX9_putWord_28 ?_
    refine C.mput hL pf_X9_245 dX9_putWord_29 (by decide) rfl ?_
    refine C.vret rfl dX9_putWord_32 (Nat.le_refl _) (Nat.le_refl _) ⟨_, _, ?_, rfl, rfl⟩
    exact ⟨rfl, hs.up31.up30, rfl⟩
theorem tOpen : TX 33 [40] := ⟨⟨_, rfl, by decide⟩, by decide, by decide⟩
theorem tClose : TX 34 [41] := ⟨⟨_, rfl, by decide⟩, by decide, by decide⟩
theorem tComma : TX 35 [44] := ⟨⟨_, rfl, by decide⟩, by decide, by decide⟩
theorem tSemi : TX 36 [59] := ⟨⟨_, rfl, by decide⟩, by decide, by decide⟩
theorem m_putOpen {d n : Nat} {bo : Bool} {a w : Int} (hd : 5 ≤ d) {s0 sf : SF} {sa : SA} (hW : Wv s0 sf a n w (b2i bo)) (hr : n + 2 ≤ 9000) : MM yX9_putOpen cX9_putOpen 1 none d [] sf sa (fun r sf' sa' => r = none ∧ Wv s0 sf' a ((n + (sp (!bo && decide (0 < n)) ++ [40]).length : Nat) : Int) w 1 ∧ sa' = wrS sa 34 n (sp (!bo && decide (0 < n)) ++ [40])) := by
  have hM := m_put (d := d - 1) (bk := !bo) (sa := sa) (by omega) hW tOpen (by simp; omega)
  have h31 := hW.2.2.2.2
  refine MM.of2 (by decide +kernel) rfl (Nat.le_of_ble_eq_true rfl) (fun L g hL X C => ?_)
  cases bo with
  | true =>
    refine C.aload_n dX9_putOpen_0 rfl ?_
    refine C.lds dX9_putOpen_1 (j := 33) rfl ?_
    refine C.aload_n dX9_putOpen_3 rfl ?_
    refine C.mget hL gf_X9_238 dX9_putOpen_4 rfl ?_
    refine C.topI (b := 1) h31 ?_
    refine C.if_neI (tgt := 14) dX9_putOpen_7 (by decide) (by omega) (fun hc7 => ?_) (fun hc7 => absurd hc7 (by decide))
    refine C.ic dX9_putOpen_14 ?_
    refine C.mcall hL (hM) cw_X9_put ml_X9_241 im_X9_put sl_X9_put dX9_putOpen_15 rfl rfl (by omega) (Nat.le_refl _) (Nat.le_refl _) (Nat.le_of_ble_eq_true rfl) rfl (fun r15 sf15 sa15 hR15 => ?_)
    obtain ⟨rfl, hs, ha⟩ := hR15
    rw [ha]
    clear ha
    refine C.aload_n dX9_putOpen_18 rfl ?_
    refine C.ic dX9_putOpen_19 ?_
    refine C.mputz hL pf_X9_238 dX9_putOpen_20 (by decide) (by first | exact Or.inl rfl | exact Or.inr rfl | assumption) rfl ?_
    refine C.vret rfl dX9_putOpen_23 (Nat.le_refl _) (Nat.le_refl _) ⟨_, _, ?_, rfl, rfl⟩
    exact ⟨rfl, hs.up31, rfl⟩
  | false =>
    refine C.aload_n dX9_putOpen_0 rfl ?_
    refine C.lds dX9_putOpen_1 (j := 33) rfl ?_
    refine C.aload_n dX9_putOpen_3 rfl ?_
    refine C.mget hL gf_X9_238 dX9_putOpen_4 rfl ?_
    refine C.topI (b := 0) h31 ?_
    refine C.if_neI (tgt := 14) dX9_putOpen_7 (by decide) (by omega) (fun hc7 => absurd hc7 (fun h => h rfl)) (fun hc7 => ?_)
    refine C.ic dX9_putOpen_10 ?_
    refine C.goto (tgt := 15) dX9_putOpen_11 (by decide) ?_
    refine C.mcall hL (hM) cw_X9_put ml_X9_241 im_X9_put sl_X9_put dX9_putOpen_15 rfl rfl (by omega) (Nat.le_refl _) (Nat.le_refl _) (Nat.le_of_ble_eq_true rfl) rfl (fun r15 sf15 sa15 hR15 => ?_)
    obtain ⟨rfl, hs, ha⟩ := hR15
    rw [ha]
    clear ha
    refine C.aload_n dX9_putOpen_18 rfl ?_
    refine C.ic dX9_putOpen_19 ?_
    refine C.mputz hL pf_X9_238 dX9_putOpen_20 (by decide) (by first | exact Or.inl rfl | exact Or.inr rfl | assumption) rfl ?_
    refine C.vret rfl dX9_putOpen_23 (Nat.le_refl _) (Nat.le_refl _) ⟨_, _, ?_, rfl, rfl⟩
    exact ⟨rfl, hs.up31, rfl⟩
/-- the digits of a number -/
def dgL (v : Int) : List Int := if 99 < v then [48 + v / 100 % 10, 48 + v / 10 % 10, 48 + v / 1 % 10] else if 9 < v then [48 + v / 10 % 10, 48 + v / 1 % 10] else [48 + v / 1 % 10]
set_option maxRecDepth 20000 in
theorem m_putNumber {d n : Nat} {v a w o : Int} {s0 sf : SF} {sa : SA} (hW : Wv s0 sf a n w o) (hv : 0 ≤ v ∧ v ≤ 999) (hr : n + 4 ≤ 9000) : MM yX9_putNumber cX9_putNumber 3 none d [.int (iI v)] sf sa (fun r sf' sa' => r = none ∧ Wv s0 sf' a ((n + (32 :: dgL v).length : Nat) : Int) (w + 1) o ∧ sa' = wrS sa 34 n (32 :: dgL v)) := by
  refine MM.of2 (by decide +kernel) rfl (Nat.le_of_ble_eq_true rfl) (fun L g hL X C => ?_)
  have fin : ∀ sfc, Wv s0 sfc a ((n + (32 :: dgL v).length : Nat) : Int) w o → X 0 0 L (ov sfc (wrS sa 34 n (32 :: dgL v)) g) 45 [some (.ref 20), some (.int (iI v)), some (.int (iI 0))] [] := by
    intro sfc hw
    refine C.iload_n dX9_putNumber_45 rfl ?_
    refine C.if_leI (tgt := 86) dX9_putNumber_46 (by decide) (by omega) (fun hc46 => ?_) (fun hc46 => absurd hc46 (by omega))
    refine C.aload_n dX9_putNumber_86 rfl ?_
    refine C.dup dX9_putNumber_87 rfl ?_
    refine C.mget hL gf_X9_245 dX9_putNumber_88 rfl ?_
    refine C.topI (b := w) hw.2.2.2.1 ?_
    refine C.ic dX9_putNumber_91 ?_
    refine C.iaddI dX9_putNumber_92 ?_
    refine C.mput hL pf_X9_245 dX9_putNumber_93 (by decide) rfl ?_
    refine C.vret rfl dX9_putNumber_96 (Nat.le_refl _) (Nat.le_refl _) ⟨_, _, ?_, rfl, rfl⟩
    exact ⟨rfl, hw.up30, rfl⟩
  have one : ∀ sfc (bs : List Int), bs.length ≤ 3 → Wv s0 sfc a ((n + bs.length : Nat) : Int) w o → bs ++ [48 + v / 1 % 10] = 32 :: dgL v → X 0 0 L (ov sfc (wrS sa 34 n bs) g) 45 [some (.ref 20), some (.int (iI v)), some (.int (iI 1))] [] := by
    intro sfc bs hbs hw he
    refine C.iload_n dX9_putNumber_45 rfl ?_
    refine C.if_leI (tgt := 86) dX9_putNumber_46 (by decide) (by omega) (fun hc46 => absurd hc46 (by omega)) (fun hc46 => ?_)
    refine C.aload_n dX9_putNumber_49 rfl ?_
    refine C.mget hL gf_X9_56 dX9_putNumber_50 rfl ?_
    refine C.aload_n dX9_putNumber_53 rfl ?_
    refine C.mget hL gf_X9_235 dX9_putNumber_54 rfl ?_
    refine C.topI (b := ((n + bs.length : Nat) : Int)) hw.2.2.1 ?_
    refine C.bi dX9_putNumber_57 (by decide) ?_
    refine C.iload_n dX9_putNumber_59 rfl ?_
    refine C.iload_n dX9_putNumber_60 rfl ?_
    refine C.idivI dX9_putNumber_61 (by omega) (by omega) ?_
    refine C.bi dX9_putNumber_62 (by decide) ?_
    refine C.iremI dX9_putNumber_64 (by omega) (by omega) ?_
    refine C.iaddI dX9_putNumber_65 ?_
    refine C.i2b dX9_putNumber_66 ?_
    rw [iI_i2b (by omega)]
    refine C.mastbk hL (k := n + bs.length) (ovs_34 _ _ _) dX9_putNumber_67 (by decide) rfl (by decide) (by omega) (by omega) (by omega) ?_
    rw [wrS_one, wrS_app, he]
    refine C.aload_n dX9_putNumber_68 rfl ?_
    refine C.dup dX9_putNumber_69 rfl ?_
    refine C.mget hL gf_X9_235 dX9_putNumber_70 rfl ?_
    refine C.topI (b := ((n + bs.length : Nat) : Int)) hw.2.2.1 ?_
    refine C.ic dX9_putNumber_73 ?_
    refine C.iaddI dX9_putNumber_74 ?_
    refine C.mput hL pf_X9_235 dX9_putNumber_75 (by decide) rfl ?_
    refine C.iload_n dX9_putNumber_78 rfl ?_
    refine C.bi dX9_putNumber_79 (by decide) ?_
    refine C.idivI dX9_putNumber_81 (by omega) (by omega) ?_
    refine C.istore_n dX9_putNumber_82 (by decide) rfl ?_
    refine C.goto (tgt := 45) dX9_putNumber_83 (by decide) ?_
    have hl := congrArg List.length he
    rw [List.length_append] at hl
    refine fin _ ?_
    rw [← hl]
    exact hw.up29
  have ten : ∀ sfc (bs : List Int), bs.length ≤ 2 → Wv s0 sfc a ((n + bs.length : Nat) : Int) w o → bs ++ [48 + v / 10 % 10] ++ [48 + v / 1 % 10] = 32 :: dgL v → X 0 0 L (ov sfc (wrS sa 34 n bs) g) 45 [some (.ref 20), some (.int (iI v)), some (.int (iI 10))] [] := by
    intro sfc bs hbs hw he
    refine C.iload_n dX9_putNumber_45 rfl ?_
    refine C.if_leI (tgt := 86) dX9_putNumber_46 (by decide) (by omega) (fun hc46 => absurd hc46 (by omega)) (fun hc46 => ?_)
    refine C.aload_n dX9_putNumber_49 rfl ?_
    refine C.mget hL gf_X9_56 dX9_putNumber_50 rfl ?_
    refine C.aload_n dX9_putNumber_53 rfl ?_
    refine C.mget hL gf_X9_235 dX9_putNumber_54 rfl ?_
    refine C.topI (b := ((n + bs.length : Nat) : Int)) hw.2.2.1 ?_
    refine C.bi dX9_putNumber_57 (by decide) ?_
    refine C.iload_n dX9_putNumber_59 rfl ?_
    refine C.iload_n dX9_putNumber_60 rfl ?_
    refine C.idivI dX9_putNumber_61 (by omega) (by omega) ?_
    refine C.bi dX9_putNumber_62 (by decide) ?_
    refine C.iremI dX9_putNumber_64 (by omega) (by omega) ?_
    refine C.iaddI dX9_putNumber_65 ?_
    refine C.i2b dX9_putNumber_66 ?_
    rw [iI_i2b (by omega)]
    refine C.mastbk hL (k := n + bs.length) (ovs_34 _ _ _) dX9_putNumber_67 (by decide) rfl (by decide) (by omega) (by omega) (by omega) ?_
    rw [wrS_one, wrS_app]
    refine C.aload_n dX9_putNumber_68 rfl ?_
    refine C.dup dX9_putNumber_69 rfl ?_
    refine C.mget hL gf_X9_235 dX9_putNumber_70 rfl ?_
    refine C.topI (b := ((n + bs.length : Nat) : Int)) hw.2.2.1 ?_
    refine C.ic dX9_putNumber_73 ?_
    refine C.iaddI dX9_putNumber_74 ?_
    refine C.mput hL pf_X9_235 dX9_putNumber_75 (by decide) rfl ?_
    refine C.iload_n dX9_putNumber_78 rfl ?_
    refine C.bi dX9_putNumber_79 (by decide) ?_
    refine C.idivI dX9_putNumber_81 (by omega) (by omega) ?_
    refine C.istore_n dX9_putNumber_82 (by decide) rfl ?_
    refine C.goto (tgt := 45) dX9_putNumber_83 (by decide) ?_
    refine one _ _ (by simp; omega) ?_ he
    rw [List.length_append]
    exact hw.up29
  have hun : ∀ sfc (bs : List Int), bs.length ≤ 1 → Wv s0 sfc a ((n + bs.length : Nat) : Int) w o → bs ++ [48 + v / 100 % 10] ++ [48 + v / 10 % 10] ++ [48 + v / 1 % 10] = 32 :: dgL v → X 0 0 L (ov sfc (wrS sa 34 n bs) g) 45 [some (.ref 20), some (.int (iI v)), some (.int (iI 100))] [] := by
    intro sfc bs hbs hw he
    refine C.iload_n dX9_putNumber_45 rfl ?_
    refine C.if_leI (tgt := 86) dX9_putNumber_46 (by decide) (by omega) (fun hc46 => absurd hc46 (by omega)) (fun hc46 => ?_)
    refine C.aload_n dX9_putNumber_49 rfl ?_
    refine C.mget hL gf_X9_56 dX9_putNumber_50 rfl ?_
    refine C.aload_n dX9_putNumber_53 rfl ?_
    refine C.mget hL gf_X9_235 dX9_putNumber_54 rfl ?_
    refine C.topI (b := ((n + bs.length : Nat) : Int)) hw.2.2.1 ?_
    refine C.bi dX9_putNumber_57 (by decide) ?_
    refine C.iload_n dX9_putNumber_59 rfl ?_
    refine C.iload_n dX9_putNumber_60 rfl ?_
    refine C.idivI dX9_putNumber_61 (by omega) (by omega) ?_
    refine C.bi dX9_putNumber_62 (by decide) ?_
    refine C.iremI dX9_putNumber_64 (by omega) (by omega) ?_
    refine C.iaddI dX9_putNumber_65 ?_
    refine C.i2b dX9_putNumber_66 ?_
    rw [iI_i2b (by omega)]
    refine C.mastbk hL (k := n + bs.length) (ovs_34 _ _ _) dX9_putNumber_67 (by decide) rfl (by decide) (by omega) (by omega) (by omega) ?_
    rw [wrS_one, wrS_app]
    refine C.aload_n dX9_putNumber_68 rfl ?_
    refine C.dup dX9_putNumber_69 rfl ?_
    refine C.mget hL gf_X9_235 dX9_putNumber_70 rfl ?_
    refine C.topI (b := ((n + bs.length : Nat) : Int)) hw.2.2.1 ?_
    refine C.ic dX9_putNumber_73 ?_
    refine C.iaddI dX9_putNumber_74 ?_
    refine C.mput hL pf_X9_235 dX9_putNumber_75 (by decide) rfl ?_
    refine C.iload_n dX9_putNumber_78 rfl ?_
    refine C.bi dX9_putNumber_79 (by decide) ?_
    refine C.idivI dX9_putNumber_81 (by omega) (by omega) ?_
    refine C.istore_n dX9_putNumber_82 (by decide) rfl ?_
    refine C.goto (tgt := 45) dX9_putNumber_83 (by decide) ?_
    refine ten _ _ (by simp; omega) ?_ he
    rw [List.length_append]
    exact hw.up29
  have h29 := hW.2.2.1
  refine C.aload_n dX9_putNumber_0 rfl ?_
  refine C.mget hL gf_X9_56 dX9_putNumber_1 rfl ?_
  refine C.aload_n dX9_putNumber_4 rfl ?_
  refine C.mget hL gf_X9_235 dX9_putNumber_5 rfl ?_
  refine C.topI (b := (n : Int)) h29 ?_
  refine C.bi dX9_putNumber_8 (by decide) ?_
  refine C.mastbk hL (ovs_34 _ _ _) dX9_putNumber_10 (by decide) rfl (by decide) rfl (by omega) (by omega) ?_
  rw [wrS_one]
  refine C.aload_n dX9_putNumber_11 rfl ?_
  refine C.dup dX9_putNumber_12 rfl ?_
  refine C.mget hL gf_X9_235 dX9_putNumber_13 rfl ?_
  refine C.topI (b := (n : Int)) h29 ?_
  refine C.ic dX9_putNumber_16 ?_
  refine C.iaddI dX9_putNumber_17 ?_
  refine C.mput hL pf_X9_235 dX9_putNumber_18 (by decide) rfl ?_
  refine C.iload_n dX9_putNumber_21 rfl ?_
  refine C.bi dX9_putNumber_22 (by decide) ?_
  refine C.icmp_leI (tgt := 32) dX9_putNumber_24 (by decide) (by omega) (by omega) (fun hc24 => ?_) (fun hc24 => ?_)
  · refine C.iload_n dX9_putNumber_32 rfl ?_
    refine C.bi dX9_putNumber_33 (by decide) ?_
    refine C.icmp_leI (tgt := 43) dX9_putNumber_35 (by decide) (by omega) (by omega) (fun hc35 => ?_) (fun hc35 => ?_)
    · refine C.ic dX9_putNumber_43 ?_
      refine C.istore_n dX9_putNumber_44 (by decide) rfl ?_
      first | (refine hun _ [32] (by simp) hW.up29 ?_; unfold dgL; rw [if_pos (by omega)]; rfl) | (refine ten _ [32] (by simp) hW.up29 ?_; unfold dgL; rw [if_neg (by omega), if_pos (by omega)]; rfl) | (refine one _ [32] (by simp) hW.up29 ?_; unfold dgL; rw [if_neg (by omega), if_neg (by omega)]; rfl)
    · refine C.bi dX9_putNumber_38 (by decide) ?_
      refine C.goto (tgt := 44) dX9_putNumber_40 (by decide) ?_
      refine C.istore_n dX9_putNumber_44 (by decide) rfl ?_
      first | (refine hun _ [32] (by simp) hW.up29 ?_; unfold dgL; rw [if_pos (by omega)]; rfl) | (refine ten _ [32] (by simp) hW.up29 ?_; unfold dgL; rw [if_neg (by omega), if_pos (by omega)]; rfl) | (refine one _ [32] (by simp) hW.up29 ?_; unfold dgL; rw [if_neg (by omega), if_neg (by omega)]; rfl)
  · refine C.bi dX9_putNumber_27 (by decide) ?_
    refine C.goto (tgt := 44) dX9_putNumber_29 (by decide) ?_
    refine C.istore_n dX9_putNumber_44 (by decide) rfl ?_
    first | (refine hun _ [32] (by simp) hW.up29 ?_; unfold dgL; rw [if_pos (by omega)]; rfl) | (refine ten _ [32] (by simp) hW.up29 ?_; unfold dgL; rw [if_neg (by omega), if_pos (by omega)]; rfl) | (refine one _ [32] (by simp) hW.up29 ?_; unfold dgL; rw [if_neg (by omega), if_neg (by omega)]; rfl)
