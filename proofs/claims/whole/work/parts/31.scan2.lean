/-- the bytes from b on are zs -/
def eqB (tb : Nat → Int) (b : Nat) (zs : List Int) : Bool := (List.range zs.length).all (fun k => tb (b + k) == zs.getD k 0)
def isW (tb : Nat → Int) (b w : Nat) (zs : List Int) : Bool := decide (w = b + zs.length) && eqB tb b zs
/-- text j has the bytes zs -/
def TX (j : Nat) (zs : List Int) : Prop := (∃ q, strs[j]? = some q ∧ q.2.2.2 = zs.map iI) ∧ (∀ z ∈ zs, 0 ≤ z ∧ z < 128) ∧ zs.length < 100
theorem getD_iI {zs : List Int} {i : Nat} (h : i < zs.length) : (zs.map iI).getD i 0 = iI (zs.getD i 0) := by
  rw [List.getD_eq_getElem?_getD, List.getD_eq_getElem?_getD, List.getElem?_map, List.getElem?_eq_getElem h]
  rfl
set_option maxRecDepth 20000 in
theorem m_isWord {d b w e j : Nat} {zs : List Int} (hd : 4 ≤ d) {sf : SF} {sa : SA} (h22 : sf 22 = w) (h24 : sf 24 = b) (he : e ≤ 400) (hw : w ≤ e) (hbw : b ≤ w) (htb : TB sa) (ht : TX j zs) : MM yX9_isWord cX9_isWord 4 (some .boolean) d [.ref (1000 + j)] sf sa (fun r sf' sa' => r = some (.int (iI (b2i (isW (sa 32) b w zs)))) ∧ sf' = sf ∧ sa' = sa) := by
  obtain ⟨⟨q, hj, hq⟩, hzr, hzl⟩ := ht
  have hql : q.2.2.2.length = zs.length := by rw [hq, List.length_map]
  refine MM.of2 (by decide +kernel) rfl (Nat.le_of_ble_eq_true rfl) (fun L g hL X C => ?_)
  have bad : isW (sa 32) b w zs = false → ∀ k : Int, X 0 0 L (ov sf sa g) 24 [some (.ref 20), some (.ref (1000 + j)), some (.int (iI 0)), some (.int (iI k))] [] := by
    intro hb k
    refine C.iload_n dX9_isWord_24 rfl ?_
    refine C.if_eqI (tgt := 67) dX9_isWord_25 (by decide) (by omega) (fun hc25 => ?_) (fun hc25 => absurd hc25 (fun h => h rfl))
    refine C.iload_n dX9_isWord_67 rfl ?_
    refine C.retI rfl (by first | rfl | (exact (iI_bool (by first | exact Or.inl rfl | exact Or.inr rfl | assumption)).1)) dX9_isWord_68 (Nat.le_refl _) (Nat.le_refl _) ⟨_, _, ?_, rfl, rfl⟩
    rw [hb]
    exact ⟨rfl, rfl, rfl⟩
  by_cases hlen : w = b + zs.length
  · have loop : ∀ (n k : Nat), k + n = zs.length → (∀ i, i < k → sa 32 (b + i) = zs.getD i 0) → X 0 0 L (ov sf sa g) 24 [some (.ref 20), some (.ref (1000 + j)), some (.int (iI 1)), some (.int (iI k))] [] := by
      intro n
      induction n with
      | zero =>
        intro k hk hs
        have hr : isW (sa 32) b w zs = true := by
          unfold isW eqB
          simp only [hlen, decide_true, Bool.true_and, List.all_eq_true, List.mem_range, beq_iff_eq]
          exact fun i hi => hs i (by omega)
        refine C.iload_n dX9_isWord_24 rfl ?_
        refine C.if_eqI (tgt := 67) dX9_isWord_25 (by decide) (by omega) (fun hc25 => absurd hc25 (by omega)) (fun hc25 => ?_)
        refine C.iload_n dX9_isWord_28 rfl ?_
        refine C.aload_n dX9_isWord_29 rfl ?_
        refine C.callT (j_length (d := d - 1) (by omega) hj) cw_J0_length_8abf5 ml_X9_115 im_J0_length_8abf5 sl_J0_length_8abf5 dX9_isWord_30 hj rfl rfl (by omega) (Nat.le_refl _) (Nat.le_refl _) (Nat.le_of_ble_eq_true rfl) rfl (fun r L9 f9 h9 => ?_)
        obtain ⟨rfl, hL9, hf9⟩ := h9
        rw [hL9, hf9]
        clear hL9 hf9
        refine C.icmp_geI (tgt := 67) dX9_isWord_33 (by decide) (by omega) (by omega) (fun hc33 => ?_) (fun hc33 => absurd hc33 (by omega))
        refine C.iload_n dX9_isWord_67 rfl ?_
        refine C.retI rfl (by first | rfl | (exact (iI_bool (by first | exact Or.inl rfl | exact Or.inr rfl | assumption)).1)) dX9_isWord_68 (Nat.le_refl _) (Nat.le_refl _) ⟨_, _, ?_, rfl, rfl⟩
        rw [hr]
        exact ⟨rfl, rfl, rfl⟩
      | succ n ih =>
        intro k hk hs
        have hz := hzr (zs.getD k 0) (by rw [List.getD_eq_getElem?_getD, List.getElem?_eq_getElem (by omega)]; exact List.getElem_mem _)
        have hzz : q.2.2.2.getD k 0 = iI (zs.getD k 0) := by rw [hq]; exact getD_iI (by omega)
        have hbk := htb (b + k)
        refine C.iload_n dX9_isWord_24 rfl ?_
        refine C.if_eqI (tgt := 67) dX9_isWord_25 (by decide) (by omega) (fun hc25 => absurd hc25 (by omega)) (fun hc25 => ?_)
        refine C.iload_n dX9_isWord_28 rfl ?_
        refine C.aload_n dX9_isWord_29 rfl ?_
        refine C.callT (j_length (d := d - 1) (by omega) hj) cw_J0_length_8abf5 ml_X9_115 im_J0_length_8abf5 sl_J0_length_8abf5 dX9_isWord_30 hj rfl rfl (by omega) (Nat.le_refl _) (Nat.le_refl _) (Nat.le_of_ble_eq_true rfl) rfl (fun r L9 f9 h9 => ?_)
        obtain ⟨rfl, hL9, hf9⟩ := h9
        rw [hL9, hf9]
        clear hL9 hf9
        refine C.icmp_geI (tgt := 67) dX9_isWord_33 (by decide) (by omega) (by omega) (fun hc33 => absurd hc33 (by omega)) (fun hc33 => ?_)
        refine C.aload_n dX9_isWord_36 rfl ?_
        refine C.mget hL gf_X9_45 dX9_isWord_37 rfl ?_
        refine C.aload_n dX9_isWord_40 rfl ?_
        refine C.mget hL gf_X9_109 dX9_isWord_41 rfl ?_
        refine C.iload_n dX9_isWord_44 rfl ?_
        refine C.iaddI dX9_isWord_45 ?_
        refine C.maldbk hL (k := b + k) dX9_isWord_46 (by decide) rfl (by decide) (by omega) (by omega) ?_
        refine C.aload_n dX9_isWord_47 rfl ?_
        refine C.iload_n dX9_isWord_48 rfl ?_
        refine C.callT (j_charAt (d := d - 1) (by omega) hj (by omega) (by omega) hzz hz) cw_J0_charAt_5068e ml_X9_120 im_J0_charAt_5068e sl_J0_charAt_5068e dX9_isWord_49 hj rfl rfl (by omega) (Nat.le_refl _) (Nat.le_refl _) (Nat.le_of_ble_eq_true rfl) rfl (fun r L9 f9 h9 => ?_)
        obtain ⟨rfl, hL9, hf9⟩ := h9
        rw [hL9, hf9]
        clear hL9 hf9
        refine C.icmp_neI (tgt := 59) dX9_isWord_52 (by decide) (by omega) (by omega) (fun hc52 => ?_) (fun hc52 => ?_)
        · have hb : isW (sa 32) b w zs = false := by
            cases h : isW (sa 32) b w zs with
            | false => rfl
            | true =>
              unfold isW eqB at h
              simp only [Bool.and_eq_true, List.all_eq_true, List.mem_range, beq_iff_eq] at h
              exact absurd (h.2 k (by omega)) hc52
          refine C.ic dX9_isWord_59 ?_
          refine C.istore_n dX9_isWord_60 (by decide) rfl ?_
          refine C.iincI dX9_isWord_61 rfl (by decide) rfl ?_
          refine C.goto (tgt := 24) dX9_isWord_64 (by decide) ?_
          exact bad hb _
        · refine C.ic dX9_isWord_55 ?_
          refine C.goto (tgt := 60) dX9_isWord_56 (by decide) ?_
          refine C.istore_n dX9_isWord_60 (by decide) rfl ?_
          refine C.iincI dX9_isWord_61 rfl (by decide) rfl ?_
          refine C.goto (tgt := 24) dX9_isWord_64 (by decide) ?_
          refine ih (k + 1) (by omega) (fun i hi => ?_)
          by_cases hik : i = k
          · rw [hik]; exact hc52
          · exact hs i (by omega)
    refine C.aload_n dX9_isWord_0 rfl ?_
    refine C.mget hL gf_X9_99 dX9_isWord_1 rfl ?_
    refine C.aload_n dX9_isWord_4 rfl ?_
    refine C.mget hL gf_X9_109 dX9_isWord_5 rfl ?_
    refine C.isubI dX9_isWord_8 ?_
    refine C.aload_n dX9_isWord_9 rfl ?_
    refine C.callT (j_length (d := d - 1) (by omega) hj) cw_J0_length_8abf5 ml_X9_115 im_J0_length_8abf5 sl_J0_length_8abf5 dX9_isWord_10 hj rfl rfl (by omega) (Nat.le_refl _) (Nat.le_refl _) (Nat.le_of_ble_eq_true rfl) rfl (fun r L9 f9 h9 => ?_)
    obtain ⟨rfl, hL9, hf9⟩ := h9
    rw [hL9, hf9]
    clear hL9 hf9
    refine C.icmp_neI (tgt := 20) dX9_isWord_13 (by decide) (by omega) (by omega) (fun hc13 => absurd hc13 (fun h => h (by omega))) (fun hc13 => ?_)
    refine C.ic dX9_isWord_16 ?_
    refine C.goto (tgt := 21) dX9_isWord_17 (by decide) ?_
    refine C.istore_n dX9_isWord_21 (by decide) rfl ?_
    refine C.ic dX9_isWord_22 ?_
    refine C.istore_n dX9_isWord_23 (by decide) rfl ?_
    exact loop zs.length 0 (by omega) (fun i hi => absurd hi (by omega))
  · have hb : isW (sa 32) b w zs = false := by unfold isW; simp [hlen]
    refine C.aload_n dX9_isWord_0 rfl ?_
    refine C.mget hL gf_X9_99 dX9_isWord_1 rfl ?_
    refine C.aload_n dX9_isWord_4 rfl ?_
    refine C.mget hL gf_X9_109 dX9_isWord_5 rfl ?_
    refine C.isubI dX9_isWord_8 ?_
    refine C.aload_n dX9_isWord_9 rfl ?_
    refine C.callT (j_length (d := d - 1) (by omega) hj) cw_J0_length_8abf5 ml_X9_115 im_J0_length_8abf5 sl_J0_length_8abf5 dX9_isWord_10 hj rfl rfl (by omega) (Nat.le_refl _) (Nat.le_refl _) (Nat.le_of_ble_eq_true rfl) rfl (fun r L9 f9 h9 => ?_)
    obtain ⟨rfl, hL9, hf9⟩ := h9
    rw [hL9, hf9]
    clear hL9 hf9
    refine C.icmp_neI (tgt := 20) dX9_isWord_13 (by decide) (by omega) (by omega) (fun hc13 => ?_) (fun hc13 => absurd hc13 (by omega))
    refine C.ic dX9_isWord_20 ?_
    refine C.istore_n dX9_isWord_21 (by decide) rfl ?_
    refine C.ic dX9_isWord_22 ?_
    refine C.istore_n dX9_isWord_23 (by decide) rfl ?_
    exact bad hb _
/-- where a word of the text stands, from p on: behind it, else at the first that is no blank -/
def psP (tb : Nat → Int) (e p : Nat) (zs : List Int) : Bool := isW tb (bl tb e p) (wend tb e (bl tb e p)) zs
theorem wend_ge (tb : Nat → Int) (e p : Nat) : p ≤ wend tb e p := (sk_ge tb e 97 122 p).1
theorem wend_le {tb : Nat → Int} {e p : Nat} (h : p ≤ e) : wend tb e p ≤ e := sk_le h
theorem bl_le {tb : Nat → Int} {e p : Nat} (h : p ≤ e) : bl tb e p ≤ e := sk_le h
set_option maxRecDepth 20000 in
theorem m_passes {d p e j : Nat} {zs : List Int} (hd : 5 ≤ d) {sf : SF} {sa : SA} (h22 : sf 22 = p) (h23 : sf 23 = e) (he : e ≤ 400) (hp : p ≤ e) (htb : TB sa) (ht : TX j zs) : MM yX9_passes cX9_passes 2 (some .boolean) d [.ref (1000 + j)] sf sa (fun r sf' sa' => r = some (.int (iI (b2i (psP (sa 32) e p zs)))) ∧ sf' = sfP sf (if psP (sa 32) e p zs then wend (sa 32) e (bl (sa 32) e p) else bl (sa 32) e p : Nat) (bl (sa 32) e p) ∧ sa' = sa) := by
  refine MM.of2 (by decide +kernel) rfl (Nat.le_of_ble_eq_true rfl) (fun L g hL X C => ?_)
  have hb := bl_le (tb := sa 32) hp
  have hM := m_isWord (d := d - 1) (sf := sfP sf (wend (sa 32) e (bl (sa 32) e p)) (bl (sa 32) e p)) (sa := sa) (b := bl (sa 32) e p) (w := wend (sa 32) e (bl (sa 32) e p)) (e := e) (by omega) rfl rfl he (wend_le hb) (wend_ge _ _ _) htb ht
  cases hr : psP (sa 32) e p zs with
  | true =>
    have hr2 : isW (sa 32) (bl (sa 32) e p) (wend (sa 32) e (bl (sa 32) e p)) zs = true := hr
    rw [hr2] at hM
    refine C.aload_n dX9_passes_0 rfl ?_
    refine C.mcall hL (m_word (d := d - 1) (by omega) h22 h23 he hp htb) cw_X9_word ml_X9_124 im_X9_word sl_X9_word dX9_passes_1 rfl rfl (by omega) (Nat.le_refl _) (Nat.le_refl _) (Nat.le_of_ble_eq_true rfl) rfl (fun r1 sf1 sa1 hR1 => ?_)
    obtain ⟨rfl, hs, ha⟩ := hR1
    rw [hs, ha]
    clear hs ha
    refine C.aload_n dX9_passes_4 rfl ?_
    refine C.aload_n dX9_passes_5 rfl ?_
    refine C.mcall hL (hM) cw_X9_isWord ml_X9_127 im_X9_isWord sl_X9_isWord dX9_passes_6 rfl rfl (by omega) (Nat.le_refl _) (Nat.le_refl _) (Nat.le_of_ble_eq_true rfl) rfl (fun r6 sf6 sa6 hR6 => ?_)
    obtain ⟨rfl, hs, ha⟩ := hR6
    rw [hs, ha]
    clear hs ha
    refine C.if_eqI (tgt := 14) dX9_passes_9 (by decide) (by decide) (fun hc9 => absurd hc9 (by decide)) (fun hc9 => ?_)
    refine C.ic dX9_passes_12 ?_
    refine C.retI rfl (by first | rfl | (exact (iI_bool (by first | exact Or.inl rfl | exact Or.inr rfl | assumption)).1)) dX9_passes_13 (Nat.le_refl _) (Nat.le_refl _) ⟨_, _, ?_, rfl, rfl⟩
    rw [hr]
    exact ⟨rfl, rfl, rfl⟩
  | false =>
    have hr2 : isW (sa 32) (bl (sa 32) e p) (wend (sa 32) e (bl (sa 32) e p)) zs = false := hr
    rw [hr2] at hM
    refine C.aload_n dX9_passes_0 rfl ?_
    refine C.mcall hL (m_word (d := d - 1) (by omega) h22 h23 he hp htb) cw_X9_word ml_X9_124 im_X9_word sl_X9_word dX9_passes_1 rfl rfl (by omega) (Nat.le_refl _) (Nat.le_refl _) (Nat.le_of_ble_eq_true rfl) rfl (fun r1 sf1 sa1 hR1 => ?_)
    obtain ⟨rfl, hs, ha⟩ := hR1
    rw [hs, ha]
    clear hs ha
    refine C.aload_n dX9_passes_4 rfl ?_
    refine C.aload_n dX9_passes_5 rfl ?_
    refine C.mcall hL (hM) cw_X9_isWord ml_X9_127 im_X9_isWord sl_X9_isWord dX9_passes_6 rfl rfl (by omega) (Nat.le_refl _) (Nat.le_refl _) (Nat.le_of_ble_eq_true rfl) rfl (fun r6 sf6 sa6 hR6 => ?_)
    obtain ⟨rfl, hs, ha⟩ := hR6
    rw [hs, ha]
    clear hs ha
    refine C.if_eqI (tgt := 14) dX9_passes_9 (by decide) (by decide) (fun hc9 => ?_) (fun hc9 => absurd hc9 (fun h => h rfl))
    refine C.aload_n dX9_passes_14 rfl ?_
    refine C.aload_n dX9_passes_15 rfl ?_
    refine C.mget hL gf_X9_109 dX9_passes_16 rfl ?_
    refine C.mput hL pf_X9_99 dX9_passes_19 (by decide) rfl ?_
    refine C.ic dX9_passes_22 ?_
    refine C.retI rfl (by first | rfl | (exact (iI_bool (by first | exact Or.inl rfl | exact Or.inr rfl | assumption)).1)) dX9_passes_23 (Nat.le_refl _) (Nat.le_refl _) ⟨_, _, ?_, rfl, rfl⟩
    rw [hr]
    refine ⟨rfl, ?_, rfl⟩
    exact sfP_22 _ _ _ _
def sgP (tb : Nat → Int) (e p : Nat) (c : Int) : Bool := inR tb e c c (bl tb e p)
set_option maxRecDepth 20000 in
theorem m_sign {d p e : Nat} {c : Int} (hd : 2 ≤ d) {sf : SF} {sa : SA} (h22 : sf 22 = p) (h23 : sf 23 = e) (he : e ≤ 400) (hp : p ≤ e) (htb : TB sa) (hc : 0 ≤ c ∧ c < 128) : MM yX9_sign cX9_sign 2 (some .boolean) d [.int (iI c)] sf sa (fun r sf' sa' => r = some (.int (iI (b2i (sgP (sa 32) e p c)))) ∧ sf' = sfP sf ((if sgP (sa 32) e p c then bl (sa 32) e p + 1 else bl (sa 32) e p : Nat) : Int) (bl (sa 32) e p) ∧ sa' = sa) := by
  refine MM.of2 (by decide +kernel) rfl (Nat.le_of_ble_eq_true rfl) (fun L g hL X C => ?_)
  have hb := bl_le (tb := sa 32) hp
  have hM := m_isAt (d := d - 1) (sf := sfP sf (bl (sa 32) e p) (bl (sa 32) e p)) (sa := sa) (p := bl (sa 32) e p) (e := e) (lo := c) (hi := c) rfl h23 he hb htb hc hc
  cases hr : sgP (sa 32) e p c with
  | true =>
    have hr2 : inR (sa 32) e c c (bl (sa 32) e p) = true := hr
    rw [hr2] at hM
    refine C.aload_n dX9_sign_0 rfl ?_
    refine C.mcall hL (m_blanks (d := d - 1) (by omega) h22 h23 he hp htb) cw_X9_blanks ml_X9_112 im_X9_blanks sl_X9_blanks dX9_sign_1 rfl rfl (by omega) (Nat.le_refl _) (Nat.le_refl _) (Nat.le_of_ble_eq_true rfl) rfl (fun r1 sf1 sa1 hR1 => ?_)
    obtain ⟨rfl, hs, ha⟩ := hR1
    rw [hs, ha]
    clear hs ha
    refine C.aload_n dX9_sign_4 rfl ?_
    refine C.iload_n dX9_sign_5 rfl ?_
    refine C.iload_n dX9_sign_6 rfl ?_
    refine C.mcall hL (hM) cw_X9_isAt ml_X9_105 im_X9_isAt sl_X9_isAt dX9_sign_7 rfl rfl (by omega) (Nat.le_refl _) (Nat.le_refl _) (Nat.le_of_ble_eq_true rfl) rfl (fun r7 sf7 sa7 hR7 => ?_)
    obtain ⟨rfl, hs, ha⟩ := hR7
    rw [hs, ha]
    clear hs ha
    refine C.if_neI (tgt := 15) dX9_sign_10 (by decide) (by decide) (fun hc10 => ?_) (fun hc10 => absurd hc10 (by decide))
    refine C.aload_n dX9_sign_15 rfl ?_
    refine C.dup dX9_sign_16 rfl ?_
    refine C.mget hL gf_X9_99 dX9_sign_17 rfl ?_
    refine C.ic dX9_sign_20 ?_
    refine C.iaddI dX9_sign_21 ?_
    refine C.mput hL pf_X9_99 dX9_sign_22 (by decide) rfl ?_
    refine C.ic dX9_sign_25 ?_
    refine C.retI rfl (by first | rfl | (exact (iI_bool (by first | exact Or.inl rfl | exact Or.inr rfl | assumption)).1)) dX9_sign_26 (Nat.le_refl _) (Nat.le_refl _) ⟨_, _, ?_, rfl, rfl⟩
    rw [hr]
    refine ⟨rfl, ?_, rfl⟩
    rw [sfP_22]
    rfl
  | false =>
    have hr2 : inR (sa 32) e c c (bl (sa 32) e p) = false := hr
    rw [hr2] at hM
    refine C.aload_n dX9_sign_0 rfl ?_
    refine C.mcall hL (m_blanks (d := d - 1) (by omega) h22 h23 he hp htb) cw_X9_blanks ml_X9_112 im_X9_blanks sl_X9_blanks dX9_sign_1 rfl rfl (by omega) (Nat.le_refl _) (Nat.le_refl _) (Nat.le_of_ble_eq_true rfl) rfl (fun r1 sf1 sa1 hR1 => ?_)
    obtain ⟨rfl, hs, ha⟩ := hR1
    rw [hs, ha]
    clear hs ha
    refine C.aload_n dX9_sign_4 rfl ?_
    refine C.iload_n dX9_sign_5 rfl ?_
    refine C.iload_n dX9_sign_6 rfl ?_
    refine C.mcall hL (hM) cw_X9_isAt ml_X9_105 im_X9_isAt sl_X9_isAt dX9_sign_7 rfl rfl (by omega) (Nat.le_refl _) (Nat.le_refl _) (Nat.le_of_ble_eq_true rfl) rfl (fun r7 sf7 sa7 hR7 => ?_)
    obtain ⟨rfl, hs, ha⟩ := hR7
    rw [hs, ha]
    clear hs ha
    refine C.if_neI (tgt := 15) dX9_sign_10 (by decide) (by decide) (fun hc10 => absurd hc10 (fun h => h rfl)) (fun hc10 => ?_)
    refine C.ic dX9_sign_13 ?_
    refine C.retI rfl (by first | rfl | (exact (iI_bool (by first | exact Or.inl rfl | exact Or.inr rfl | assumption)).1)) dX9_sign_14 (Nat.le_refl _) (Nat.le_refl _) ⟨_, _, ?_, rfl, rfl⟩
    rw [hr]
    exact ⟨rfl, rfl, rfl⟩
/-- what the first k digits from b on say, at most three -/
def nvF (tb : Nat → Int) (b : Nat) : Nat → Int
  | 0 => 0
  | k + 1 => if k < 3 then 10 * nvF tb b k + tb (b + k) - 48 else nvF tb b k
def dend (tb : Nat → Int) (e p : Nat) : Nat := sk tb e 48 57 p
/-- the number at b, in bounds; else -1 -/
def nmV (tb : Nat → Int) (e b : Nat) (lo hi : Int) : Int := if dend tb e b = b ∨ b + 3 < dend tb e b ∨ nvF tb b (dend tb e b - b) < lo ∨ hi < nvF tb b (dend tb e b - b) then -1 else nvF tb b (dend tb e b - b)
theorem nvF_rng {tb : Nat → Int} {b : Nat} : ∀ (k : Nat), (∀ i, i < k → 48 ≤ tb (b + i) ∧ tb (b + i) ≤ 57) → 0 ≤ nvF tb b k ∧ (k = 0 → nvF tb b k = 0) ∧ (k = 1 → nvF tb b k ≤ 9) ∧ (k = 2 → nvF tb b k ≤ 99) ∧ nvF tb b k ≤ 999
  | 0, _ => by simp [nvF]
  | k + 1, h => by
    have h1 := nvF_rng k (fun i hi => h i (by omega))
    have h2 := h k (by omega)
    unfold nvF
    split <;> omega
theorem dig_all {tb : Nat → Int} {e : Nat} : ∀ (n b k : Nat), e - b = n → k < dend tb e b - b → 48 ≤ tb (b + k) ∧ tb (b + k) ≤ 57
  | 0, b, k, hn, hk => by
    have : inR tb e 48 57 b = false := by
      cases h : inR tb e 48 57 b with
      | false => rfl
      | true => have := inR_lt h; omega
    unfold dend at hk
    rw [sk_stop this] at hk
    omega
  | n + 1, b, k, hn, hk => by
    cases h : inR tb e 48 57 b with
    | false =>
      unfold dend at hk
      rw [sk_stop h] at hk
      omega
    | true =>
      cases k with
      | zero => exact (inR_lt h).2
      | succ k =>
        have := dig_all (tb := tb) (e := e) n (b + 1) k (by omega) (by
          unfold dend at hk ⊢
          rw [sk_go h] at hk
          omega)
        rw [show b + (k + 1) = b + 1 + k by omega]
        exact this
theorem nmV_rng (tb : Nat → Int) (e b : Nat) (lo hi : Int) : -1 ≤ nmV tb e b lo hi ∧ nmV tb e b lo hi ≤ 999 := by
  have := nvF_rng (tb := tb) (b := b) (dend tb e b - b) (fun i hi => dig_all _ b i rfl hi)
  unfold nmV
  split <;> omega
set_option maxRecDepth 20000 in
set_option maxHeartbeats 1000000 in
theorem m_number {d p e : Nat} {lo hi : Int} (hd : 2 ≤ d) {sf : SF} {sa : SA} (h22 : sf 22 = p) (h23 : sf 23 = e) (he : e ≤ 400) (hp : p ≤ e) (htb : TB sa) (hlo : 0 ≤ lo ∧ lo < 1000) (hhi : 0 ≤ hi ∧ hi < 1000) : MM yX9_number cX9_number 4 (some .int) d [.int (iI lo), .int (iI hi)] sf sa (fun r sf' sa' => r = some (.int (iI (nmV (sa 32) e (bl (sa 32) e p) lo hi))) ∧ sf' = sfP sf (dend (sa 32) e (bl (sa 32) e p)) (bl (sa 32) e p) ∧ sa' = sa) := by
  have hb := bl_le (tb := sa 32) hp
  generalize hB : bl (sa 32) e p = b at hb ⊢
  have hdge : b ≤ dend (sa 32) e b ∧ dend (sa 32) e b ≤ e := ⟨(sk_ge _ _ _ _ _).1, sk_le hb⟩
  have hall : ∀ k, k < dend (sa 32) e b - b → 48 ≤ sa 32 (b + k) ∧ sa 32 (b + k) ≤ 57 := fun k hk => dig_all _ b k rfl hk
  have hvr := nvF_rng (tb := sa 32) (b := b) (dend (sa 32) e b - b) hall
  refine MM.of2 (by decide +kernel) rfl (Nat.le_of_ble_eq_true rfl) (fun L g hL X C => ?_)
  have loop : ∀ (n q : Nat), dend (sa 32) e b - q = n → b ≤ q → q ≤ dend (sa 32) e b → dend (sa 32) e q = dend (sa 32) e b → X 0 0 L (ov (sfP sf q b) sa g) 6 [some (.ref 20), some (.int (iI lo)), some (.int (iI hi)), some (.int (iI (nvF (sa 32) b (q - b))))] [] := by
    intro n
    induction n with
    | zero =>
      intro q hq hbq hqe hs
      have hqd : q = dend (sa 32) e b := by omega
      have hin : inR (sa 32) e 48 57 q = false := by
        cases h : inR (sa 32) e 48 57 q with
        | false => rfl
        | true =>
          unfold dend at hs hqd
          rw [sk_go h] at hs
          have := (sk_ge (sa 32) e 48 57 (q + 1)).1
          omega
      have hM := m_isAt (d := d - 1) (sf := sfP sf q b) (sa := sa) (p := q) (lo := 48) (hi := 57) rfl h23 he (by omega) htb (by omega) (by omega)
      rw [hin] at hM
      have hnm : ∀ z : Int, (z = -1 ∧ (q = b ∨ b + 3 < q ∨ nvF (sa 32) b (q - b) < lo ∨ hi < nvF (sa 32) b (q - b))) ∨ (z = nvF (sa 32) b (q - b) ∧ ¬ (q = b ∨ b + 3 < q ∨ nvF (sa 32) b (q - b) < lo ∨ hi < nvF (sa 32) b (q - b))) → z = nmV (sa 32) e b lo hi := by
        intro z hz
        unfold nmV
        rw [← hqd]
        rcases hz with ⟨rfl, h⟩ | ⟨rfl, h⟩
        · rw [if_pos h]
        · rw [if_neg h]
      have e22 : sfP sf q b 22 = q := rfl
      have e24 : sfP sf q b 24 = b := rfl
      rw [← hqd] at hvr
      refine C.aload_n dX9_number_6 rfl ?_
      refine C.bi dX9_number_7 (by decide) ?_
      refine C.bi dX9_number_9 (by decide) ?_
      refine C.mcall hL (hM) cw_X9_isAt ml_X9_105 im_X9_isAt sl_X9_isAt dX9_number_11 rfl rfl (by omega) (Nat.le_refl _) (Nat.le_refl _) (Nat.le_of_ble_eq_true rfl) rfl (fun r11 sf11 sa11 hR11 => ?_)
      obtain ⟨rfl, hs, ha⟩ := hR11
      rw [hs, ha]
      clear hs ha
      refine C.if_eqI (tgt := 65) dX9_number_14 (by decide) (by decide) (fun hc14 => ?_) (fun hc14 => absurd hc14 (fun h => h rfl))
      refine C.aload_n dX9_number_65 rfl ?_
      refine C.mget hL gf_X9_99 dX9_number_66 rfl ?_
      refine C.aload_n dX9_number_69 rfl ?_
      refine C.mget hL gf_X9_109 dX9_number_70 rfl ?_
      refine C.icmp_eqI (tgt := 99) dX9_number_73 (by decide) (by omega) (by omega) (fun hc73 => ?_) (fun hc73 => ?_)
      · refine C.ic dX9_number_99 ?_
        refine C.goto (tgt := 104) dX9_number_100 (by decide) ?_
        refine C.retI rfl rfl dX9_number_104 (Nat.le_refl _) (Nat.le_refl _) ⟨_, _, ?_, rfl, rfl⟩
        refine ⟨?_, by rw [hqd], rfl⟩
        refine congrArg (fun z => some (Value.int (iI z))) (hnm _ ?_)
        first | exact Or.inl ⟨rfl, by omega⟩ | exact Or.inr ⟨rfl, by omega⟩
      · refine C.aload_n dX9_number_76 rfl ?_
        refine C.mget hL gf_X9_99 dX9_number_77 rfl ?_
        refine C.aload_n dX9_number_80 rfl ?_
        refine C.mget hL gf_X9_109 dX9_number_81 rfl ?_
        refine C.isubI dX9_number_84 ?_
        refine C.ic dX9_number_85 ?_
        refine C.icmp_gtI (tgt := 99) dX9_number_86 (by decide) (by omega) (by omega) (fun hc86 => ?_) (fun hc86 => ?_)
        · refine C.ic dX9_number_99 ?_
          refine C.goto (tgt := 104) dX9_number_100 (by decide) ?_
          refine C.retI rfl rfl dX9_number_104 (Nat.le_refl _) (Nat.le_refl _) ⟨_, _, ?_, rfl, rfl⟩
          refine ⟨?_, by rw [hqd], rfl⟩
          refine congrArg (fun z => some (Value.int (iI z))) (hnm _ ?_)
          first | exact Or.inl ⟨rfl, by omega⟩ | exact Or.inr ⟨rfl, by omega⟩
        · refine C.iload_n dX9_number_89 rfl ?_
          refine C.iload_n dX9_number_90 rfl ?_
          refine C.icmp_ltI (tgt := 99) dX9_number_91 (by decide) (by omega) (by omega) (fun hc91 => ?_) (fun hc91 => ?_)
          · refine C.ic dX9_number_99 ?_
            refine C.goto (tgt := 104) dX9_number_100 (by decide) ?_
            refine C.retI rfl rfl dX9_number_104 (Nat.le_refl _) (Nat.le_refl _) ⟨_, _, ?_, rfl, rfl⟩
            refine ⟨?_, by rw [hqd], rfl⟩
            refine congrArg (fun z => some (Value.int (iI z))) (hnm _ ?_)
            first | exact Or.inl ⟨rfl, by omega⟩ | exact Or.inr ⟨rfl, by omega⟩
          · refine C.iload_n dX9_number_94 rfl ?_
            refine C.iload_n dX9_number_95 rfl ?_
            refine C.icmp_leI (tgt := 103) dX9_number_96 (by decide) (by omega) (by omega) (fun hc96 => ?_) (fun hc96 => ?_)
            · refine C.iload_n dX9_number_103 rfl ?_
              refine C.retI rfl rfl dX9_number_104 (Nat.le_refl _) (Nat.le_refl _) ⟨_, _, ?_, rfl, rfl⟩
              refine ⟨?_, by rw [hqd], rfl⟩
              refine congrArg (fun z => some (Value.int (iI z))) (hnm _ ?_)
              first | exact Or.inl ⟨rfl, by omega⟩ | exact Or.inr ⟨rfl, by omega⟩
            · refine C.ic dX9_number_99 ?_
              refine C.goto (tgt := 104) dX9_number_100 (by decide) ?_
              refine C.retI rfl rfl dX9_number_104 (Nat.le_refl _) (Nat.le_refl _) ⟨_, _, ?_, rfl, rfl⟩
              refine ⟨?_, by rw [hqd], rfl⟩
              refine congrArg (fun z => some (Value.int (iI z))) (hnm _ ?_)
              first | exact Or.inl ⟨rfl, by omega⟩ | exact Or.inr ⟨rfl, by omega⟩
    | succ n ih =>
      intro q hq hbq hqe hs
      have hin : inR (sa 32) e 48 57 q = true := by
        cases h : inR (sa 32) e 48 57 q with
        | true => rfl
        | false =>
          unfold dend at hs hq
          rw [sk_stop h] at hs
          omega
      have hlt := (inR_lt hin)
      have hM := m_isAt (d := d - 1) (sf := sfP sf q b) (sa := sa) (p := q) (lo := 48) (hi := 57) rfl h23 he (by omega) htb (by omega) (by omega)
      rw [hin] at hM
      have e22 : sfP sf q b 22 = q := rfl
      have e24 : sfP sf q b 24 = b := rfl
      have hs2 : dend (sa 32) e (q + 1) = dend (sa 32) e b := by
        rw [← hs]
        unfold dend
        rw [sk_go hin]
      have hnext : ∀ z, z = nvF (sa 32) b (q + 1 - b) → X 0 0 L (ov (sfP sf q b) sa g) 52 [some (.ref 20), some (.int (iI lo)), some (.int (iI hi)), some (.int (iI z))] [] := by
        intro z hz
        subst hz
        refine C.aload_n dX9_number_52 rfl ?_
        refine C.dup dX9_number_53 rfl ?_
        refine C.mget hL gf_X9_99 dX9_number_54 rfl ?_
        refine C.ic dX9_number_57 ?_
        refine C.iaddI dX9_number_58 ?_
        refine C.mput hL pf_X9_99 dX9_number_59 (by decide) rfl ?_
        refine C.goto (tgt := 6) dX9_number_62 (by decide) ?_
        rw [sfP_22]
        exact ih (q + 1) (by omega) (by omega) (by omega) hs2
      have hnv : nvF (sa 32) b (q + 1 - b) = if q - b < 3 then 10 * nvF (sa 32) b (q - b) + sa 32 q - 48 else nvF (sa 32) b (q - b) := by
        have h1 : nvF (sa 32) b ((q - b) + 1) = if q - b < 3 then 10 * nvF (sa 32) b (q - b) + sa 32 (b + (q - b)) - 48 else nvF (sa 32) b (q - b) := rfl
        rw [show q + 1 - b = (q - b) + 1 by omega, h1, show b + (q - b) = q by omega]
      refine C.aload_n dX9_number_6 rfl ?_
      refine C.bi dX9_number_7 (by decide) ?_
      refine C.bi dX9_number_9 (by decide) ?_
      refine C.mcall hL (hM) cw_X9_isAt ml_X9_105 im_X9_isAt sl_X9_isAt dX9_number_11 rfl rfl (by omega) (Nat.le_refl _) (Nat.le_refl _) (Nat.le_of_ble_eq_true rfl) rfl (fun r11 sf11 sa11 hR11 => ?_)
      obtain ⟨rfl, hs, ha⟩ := hR11
      rw [hs, ha]
      clear hs ha
      refine C.if_eqI (tgt := 65) dX9_number_14 (by decide) (by decide) (fun hc14 => absurd hc14 (by decide)) (fun hc14 => ?_)
      refine C.aload_n dX9_number_17 rfl ?_
      refine C.mget hL gf_X9_99 dX9_number_18 rfl ?_
      refine C.aload_n dX9_number_21 rfl ?_
      refine C.mget hL gf_X9_109 dX9_number_22 rfl ?_
      refine C.isubI dX9_number_25 ?_
      refine C.ic dX9_number_26 ?_
      refine C.icmp_geI (tgt := 50) dX9_number_27 (by decide) (by omega) (by omega) (fun hc27 => ?_) (fun hc27 => ?_)
      · refine C.iload_n dX9_number_50 rfl ?_
        refine C.istore_n dX9_number_51 (by decide) rfl ?_
        refine hnext _ ?_
        rw [hnv]
        first | rw [if_pos (by omega)] | rw [if_neg (by omega)]
      · refine C.bi dX9_number_30 (by decide) ?_
        refine C.iload_n dX9_number_32 rfl ?_
        refine C.imulI dX9_number_33 ?_
        refine C.aload_n dX9_number_34 rfl ?_
        refine C.mget hL gf_X9_45 dX9_number_35 rfl ?_
        refine C.aload_n dX9_number_38 rfl ?_
        refine C.mget hL gf_X9_99 dX9_number_39 rfl ?_
        refine C.maldbk hL (k := q) dX9_number_42 (by decide) rfl (by decide) (by omega) (by omega) ?_
        refine C.iaddI dX9_number_43 ?_
        refine C.bi dX9_number_44 (by decide) ?_
        refine C.isubI dX9_number_46 ?_
        refine C.goto (tgt := 51) dX9_number_47 (by decide) ?_
        refine C.istore_n dX9_number_51 (by decide) rfl ?_
        refine hnext _ ?_
        rw [hnv]
        first | rw [if_pos (by omega)] | rw [if_neg (by omega)]
  refine C.aload_n dX9_number_0 rfl ?_
  refine C.mcall hL (m_blanks (d := d - 1) (by omega) h22 h23 he hp htb) cw_X9_blanks ml_X9_112 im_X9_blanks sl_X9_blanks dX9_number_1 rfl rfl (by omega) (Nat.le_refl _) (Nat.le_refl _) (Nat.le_of_ble_eq_true rfl) rfl (fun r1 sf1 sa1 hR1 => ?_)
  obtain ⟨rfl, hs, ha⟩ := hR1
  rw [hs, ha]
  clear hs ha
  refine C.ic dX9_number_4 ?_
  refine C.istore_n dX9_number_5 (by decide) rfl ?_
  have hB2 : sk (sa 32) e 32 32 p = b := hB
  rw [hB2]
  have h0 := loop _ b rfl (Nat.le_refl _) hdge.1 rfl
  rw [Nat.sub_self] at h0
  exact h0
