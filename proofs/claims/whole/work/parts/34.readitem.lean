theorem sfR_26u (sf : SF) (p b q x : Int) : va_up (sfR sf p b q) 26 x = sfR (va_up sf 26 x) p b q := sf_ext rfl rfl rfl rfl (fun j a b c d => by rw [va_up_ne _ _ d, sfR_o a b c, sfR_o a b c, va_up_ne _ _ d])
theorem psP_bl (tb : Nat → Int) (e p : Nat) (zs : List Int) : psP tb e (bl tb e p) zs = psP tb e p zs := by unfold psP; rw [bl_bl]
theorem m_place3 {d : Nat} {sf : SF} {sa : SA} {w : Int} {p b : Int} {pl : Nat} (hl : pl < 1400) : MM yX9_place cX9_place 2 (some .int) d [.int (iI w)] (sfR sf p b pl) sa (fun r sf' sa' => r = some (.int (iI pl)) ∧ sf' = sfR sf p b ((pl + 1 : Nat) : Int) ∧ sa' = plS sa pl w) := by
  have h := m_place2 (d := d) (sf := sfR sf p b pl) (sa := sa) (w := w) (pl := pl) rfl hl
  rw [sfR_17] at h
  exact h
theorem TA_leaf (sa : SA) (pl n D : Nat) (hpl : pl < 1400) (hn : n < 10) (hD : 1 ≤ D) : TA (plS sa pl n 29) (plS sa pl n 30) (plS sa pl n 31) D pl (.count n) [pl] :=
  TA.mono 1 hD ⟨hpl, [], va_up_self (sa 30) _ _, (fun q hq => by cases hq), rfl, Or.inl ⟨n, hn, va_up_self (sa 29) _ _, rfl, rfl⟩⟩
set_option maxRecDepth 20000 in
set_option maxHeartbeats 4000000 in
theorem m_readItem {e : Nat} : ∀ (k : Nat), k ≤ 12 → ∀ {d p pl : Nat} {sf : SF} {sa : SA}, 6 + 3 * k ≤ d → RD k e p pl sf sa → MM yX9_readItem cX9_readItem 3 (some .int) d [] sf sa (RP (2 * k + 1) (itemP (sa 32) e k p) pl p sf sa) := by
  have tNot : TX 17 zNot := ⟨⟨_, rfl, by decide⟩, by decide, by decide⟩
  have tCase : TX 18 zCase := ⟨⟨_, rfl, by decide⟩, by decide, by decide⟩
  -- the parts that are alike at each depth
  have rest : ∀ (k : Nat) (rec : Option (Nat → RR)) {d p pl : Nat} {sf : SF} {sa : SA}, k ≤ 12 → 6 + 3 * k ≤ d → RD k e p pl sf sa → sgP (sa 32) e p 40 = false → psP (sa 32) e p zNot = false → itemP (sa 32) e k p = itemB (sa 32) e rec p → MM yX9_readItem cX9_readItem 3 (some .int) d [] sf sa (RP (2 * k + 1) (itemP (sa 32) e k p) pl p sf sa) := by
    intro k rec d p pl sf sa hk hd h hs1 hs2 hit
    obtain ⟨h22, h23, h26, h17, hpe, he, htb, hplp⟩ := id h
    have hb := bl_le (tb := sa 32) hpe
    have hb2 := bl_ge (sa 32) e p
    have hS := m_sign (d := d - 1) (c := 40) (by omega) h22 h23 he hpe htb (by omega)
    rw [hs1] at hS
    simp only [Bool.false_eq_true, if_false] at hS
    rw [sfP_17 sf _ _ _ h17] at hS
    have hP := m_passes (d := d - 1) (p := bl (sa 32) e p) (e := e) (j := 17) (zs := zNot) (sf := sfR sf (bl (sa 32) e p) (bl (sa 32) e p) pl) (sa := sa) (by omega) rfl h23 he hb htb tNot
    rw [psP_bl, hs2] at hP
    simp only [Bool.false_eq_true, if_false] at hP
    rw [sfP_R, bl_bl] at hP
    have hQ := m_passes (d := d - 1) (p := bl (sa 32) e p) (e := e) (j := 18) (zs := zCase) (sf := sfR sf (bl (sa 32) e p) (bl (sa 32) e p) pl) (sa := sa) (by omega) rfl h23 he hb htb tCase
    rw [psP_bl] at hQ
    cases hs3 : psP (sa 32) e p zCase with
    | false =>
      have hr : itemP (sa 32) e k p = .inr (bl (sa 32) e p) := by
        rw [hit]; unfold itemB; rw [hs1, hs2, hs3]; rfl
      rw [hs3] at hQ
      simp only [Bool.false_eq_true, if_false] at hQ
      rw [sfP_R, bl_bl] at hQ
      rw [hr]
      refine MM.of2 (by decide +kernel) rfl (Nat.le_of_ble_eq_true rfl) (fun L g hL X C => ?_)
      refine C.aload_n dX9_readItem_0 rfl ?_
      refine C.bi dX9_readItem_1 (by decide) ?_
      refine C.mcall hL (hS) cw_X9_sign ml_X9_131 im_X9_sign sl_X9_sign dX9_readItem_3 rfl rfl (by omega) (Nat.le_refl _) (Nat.le_refl _) (Nat.le_of_ble_eq_true rfl) rfl (fun r3 sf3 sa3 hR3 => ?_)
      obtain ⟨rfl, hs, ha⟩ := hR3
      rw [hs, ha]
      clear hs ha
      refine C.if_eqI (tgt := 64) dX9_readItem_6 (by decide) (by decide) (fun hc6 => ?_) (fun hc6 => absurd hc6 (fun h => h rfl))
      refine C.aload_n dX9_readItem_64 rfl ?_
      refine C.lds dX9_readItem_65 (j := 17) rfl ?_
      refine C.mcall hL (hP) cw_X9_passes ml_X9_143 im_X9_passes sl_X9_passes dX9_readItem_67 rfl rfl (by omega) (Nat.le_refl _) (Nat.le_refl _) (Nat.le_of_ble_eq_true rfl) rfl (fun r67 sf67 sa67 hR67 => ?_)
      obtain ⟨rfl, hs, ha⟩ := hR67
      rw [hs, ha]
      clear hs ha
      refine C.if_eqI (tgt := 130) dX9_readItem_70 (by decide) (by decide) (fun hc70 => ?_) (fun hc70 => absurd hc70 (fun h => h rfl))
      refine C.aload_n dX9_readItem_130 rfl ?_
      refine C.lds dX9_readItem_131 (j := 18) rfl ?_
      refine C.mcall hL (hQ) cw_X9_passes ml_X9_143 im_X9_passes sl_X9_passes dX9_readItem_133 rfl rfl (by omega) (Nat.le_refl _) (Nat.le_refl _) (Nat.le_of_ble_eq_true rfl) rfl (fun r133 sf133 sa133 hR133 => ?_)
      obtain ⟨rfl, hs, ha⟩ := hR133
      rw [hs, ha]
      clear hs ha
      refine C.if_neI (tgt := 141) dX9_readItem_136 (by decide) (by decide) (fun hc136 => absurd hc136 (fun h => h rfl)) (fun hc136 => ?_)
      refine C.ic dX9_readItem_139 ?_
      refine C.retI rfl rfl dX9_readItem_140 (Nat.le_refl _) (Nat.le_refl _) ⟨_, _, ?_, rfl, rfl⟩
      exact ⟨_, _, rfl, rfl, Fr.rf⟩
    | true =>
      rw [hs3] at hQ
      simp only [if_true] at hQ
      rw [sfP_R, bl_bl] at hQ
      have hw := psP_len hs3
      simp at hw
      have hw2 := wend_le (tb := sa 32) hb
      have hb3 := bl_le (tb := sa 32) hw2
      have hb4 := bl_ge (sa 32) e (wend (sa 32) e (bl (sa 32) e p))
      have hN := m_number (d := d - 1) (p := wend (sa 32) e (bl (sa 32) e p)) (e := e) (lo := 0) (hi := 5) (sf := sfR sf (wend (sa 32) e (bl (sa 32) e p)) (bl (sa 32) e p) pl) (sa := sa) (by omega) rfl h23 he hw2 htb (by omega) (by omega)
      rw [sfP_R] at hN
      have hvr := nmV_rng (sa 32) e (bl (sa 32) e (wend (sa 32) e (bl (sa 32) e p))) 0 5
      by_cases hv : nmV (sa 32) e (bl (sa 32) e (wend (sa 32) e (bl (sa 32) e p))) 0 5 < 0
      · have hr : itemP (sa 32) e k p = .inr (bl (sa 32) e (wend (sa 32) e (bl (sa 32) e p))) := by
          rw [hit]; unfold itemB; rw [hs1, hs2, hs3]; simp [hv]
        rw [hr]
        refine MM.of2 (by decide +kernel) rfl (Nat.le_of_ble_eq_true rfl) (fun L g hL X C => ?_)
        refine C.aload_n dX9_readItem_0 rfl ?_
        refine C.bi dX9_readItem_1 (by decide) ?_
        refine C.mcall hL (hS) cw_X9_sign ml_X9_131 im_X9_sign sl_X9_sign dX9_readItem_3 rfl rfl (by omega) (Nat.le_refl _) (Nat.le_refl _) (Nat.le_of_ble_eq_true rfl) rfl (fun r3 sf3 sa3 hR3 => ?_)
        obtain ⟨rfl, hs, ha⟩ := hR3
        rw [hs, ha]
        clear hs ha
        refine C.if_eqI (tgt := 64) dX9_readItem_6 (by decide) (by decide) (fun hc6 => ?_) (fun hc6 => absurd hc6 (fun h => h rfl))
        refine C.aload_n dX9_readItem_64 rfl ?_
        refine C.lds dX9_readItem_65 (j := 17) rfl ?_
        refine C.mcall hL (hP) cw_X9_passes ml_X9_143 im_X9_passes sl_X9_passes dX9_readItem_67 rfl rfl (by omega) (Nat.le_refl _) (Nat.le_refl _) (Nat.le_of_ble_eq_true rfl) rfl (fun r67 sf67 sa67 hR67 => ?_)
        obtain ⟨rfl, hs, ha⟩ := hR67
        rw [hs, ha]
        clear hs ha
        refine C.if_eqI (tgt := 130) dX9_readItem_70 (by decide) (by decide) (fun hc70 => ?_) (fun hc70 => absurd hc70 (fun h => h rfl))
        refine C.aload_n dX9_readItem_130 rfl ?_
        refine C.lds dX9_readItem_131 (j := 18) rfl ?_
        refine C.mcall hL (hQ) cw_X9_passes ml_X9_143 im_X9_passes sl_X9_passes dX9_readItem_133 rfl rfl (by omega) (Nat.le_refl _) (Nat.le_refl _) (Nat.le_of_ble_eq_true rfl) rfl (fun r133 sf133 sa133 hR133 => ?_)
        obtain ⟨rfl, hs, ha⟩ := hR133
        rw [hs, ha]
        clear hs ha
        refine C.if_neI (tgt := 141) dX9_readItem_136 (by decide) (by decide) (fun hc136 => ?_) (fun hc136 => absurd hc136 (by decide))
        refine C.aload_n dX9_readItem_141 rfl ?_
        refine C.ic dX9_readItem_142 ?_
        refine C.ic dX9_readItem_143 ?_
        refine C.mcall hL (hN) cw_X9_number ml_X9_151 im_X9_number sl_X9_number dX9_readItem_144 rfl rfl (by omega) (Nat.le_refl _) (Nat.le_refl _) (Nat.le_of_ble_eq_true rfl) rfl (fun r144 sf144 sa144 hR144 => ?_)
        obtain ⟨rfl, hs, ha⟩ := hR144
        rw [hs, ha]
        clear hs ha
        refine C.istore_n dX9_readItem_147 (by decide) rfl ?_
        refine C.iload_n dX9_readItem_148 rfl ?_
        refine C.if_geI (tgt := 156) dX9_readItem_149 (by decide) (by omega) (fun hc149 => absurd hc149 (by omega)) (fun hc149 => ?_)
        refine C.ic dX9_readItem_152 ?_
        refine C.goto (tgt := 161) dX9_readItem_153 (by decide) ?_
        refine C.retI rfl rfl dX9_readItem_161 (Nat.le_refl _) (Nat.le_refl _) ⟨_, _, ?_, rfl, rfl⟩
        exact ⟨_, _, rfl, rfl, Fr.rf⟩
      · obtain ⟨n1, n2, n3⟩ := nmV_pos (by omega) hv
        obtain ⟨v, hve⟩ : ∃ v : Nat, nmV (sa 32) e (bl (sa 32) e (wend (sa 32) e (bl (sa 32) e p))) 0 5 = v := ⟨_, (Int.toNat_of_nonneg n3).symm⟩
        have hr : itemP (sa 32) e k p = .inl (.count v, dend (sa 32) e (bl (sa 32) e (wend (sa 32) e (bl (sa 32) e p)))) := by
          rw [hit]; unfold itemB; rw [hs1, hs2, hs3]; simp only [Bool.false_eq_true, if_false, if_true, hve]; rw [if_neg (by omega)]; rfl
        have hde : dend (sa 32) e (bl (sa 32) e (wend (sa 32) e (bl (sa 32) e p))) ≤ e := sk_le hb3
        rw [hve] at hN
        rw [hr]
        refine MM.of2 (by decide +kernel) rfl (Nat.le_of_ble_eq_true rfl) (fun L g hL X C => ?_)
        refine C.aload_n dX9_readItem_0 rfl ?_
        refine C.bi dX9_readItem_1 (by decide) ?_
        refine C.mcall hL (hS) cw_X9_sign ml_X9_131 im_X9_sign sl_X9_sign dX9_readItem_3 rfl rfl (by omega) (Nat.le_refl _) (Nat.le_refl _) (Nat.le_of_ble_eq_true rfl) rfl (fun r3 sf3 sa3 hR3 => ?_)
        obtain ⟨rfl, hs, ha⟩ := hR3
        rw [hs, ha]
        clear hs ha
        refine C.if_eqI (tgt := 64) dX9_readItem_6 (by decide) (by decide) (fun hc6 => ?_) (fun hc6 => absurd hc6 (fun h => h rfl))
        refine C.aload_n dX9_readItem_64 rfl ?_
        refine C.lds dX9_readItem_65 (j := 17) rfl ?_
        refine C.mcall hL (hP) cw_X9_passes ml_X9_143 im_X9_passes sl_X9_passes dX9_readItem_67 rfl rfl (by omega) (Nat.le_refl _) (Nat.le_refl _) (Nat.le_of_ble_eq_true rfl) rfl (fun r67 sf67 sa67 hR67 => ?_)
        obtain ⟨rfl, hs, ha⟩ := hR67
        rw [hs, ha]
        clear hs ha
        refine C.if_eqI (tgt := 130) dX9_readItem_70 (by decide) (by decide) (fun hc70 => ?_) (fun hc70 => absurd hc70 (fun h => h rfl))
        refine C.aload_n dX9_readItem_130 rfl ?_
        refine C.lds dX9_readItem_131 (j := 18) rfl ?_
        refine C.mcall hL (hQ) cw_X9_passes ml_X9_143 im_X9_passes sl_X9_passes dX9_readItem_133 rfl rfl (by omega) (Nat.le_refl _) (Nat.le_refl _) (Nat.le_of_ble_eq_true rfl) rfl (fun r133 sf133 sa133 hR133 => ?_)
        obtain ⟨rfl, hs, ha⟩ := hR133
        rw [hs, ha]
        clear hs ha
        refine C.if_neI (tgt := 141) dX9_readItem_136 (by decide) (by decide) (fun hc136 => ?_) (fun hc136 => absurd hc136 (by decide))
        refine C.aload_n dX9_readItem_141 rfl ?_
        refine C.ic dX9_readItem_142 ?_
        refine C.ic dX9_readItem_143 ?_
        refine C.mcall hL (hN) cw_X9_number ml_X9_151 im_X9_number sl_X9_number dX9_readItem_144 rfl rfl (by omega) (Nat.le_refl _) (Nat.le_refl _) (Nat.le_of_ble_eq_true rfl) rfl (fun r144 sf144 sa144 hR144 => ?_)
        obtain ⟨rfl, hs, ha⟩ := hR144
        rw [hs, ha]
        clear hs ha
        refine C.istore_n dX9_readItem_147 (by decide) rfl ?_
        refine C.iload_n dX9_readItem_148 rfl ?_
        refine C.if_geI (tgt := 156) dX9_readItem_149 (by decide) (by omega) (fun hc149 => ?_) (fun hc149 => absurd hc149 (by omega))
        refine C.aload_n dX9_readItem_156 rfl ?_
        refine C.iload_n dX9_readItem_157 rfl ?_
        refine C.mcall hL (m_place3 (d := d - 1) (pl := pl) (by omega)) cw_X9_place ml_X9_68 im_X9_place sl_X9_place dX9_readItem_158 rfl rfl (by omega) (Nat.le_refl _) (Nat.le_refl _) (Nat.le_of_ble_eq_true rfl) rfl (fun r158 sf158 sa158 hR158 => ?_)
        obtain ⟨rfl, hs, ha⟩ := hR158
        rw [hs, ha]
        clear hs ha
        refine C.retI rfl rfl dX9_readItem_161 (Nat.le_refl _) (Nat.le_refl _) ⟨_, _, ?_, rfl, rfl⟩
        refine ⟨pl, pl + 1, _, [pl], rfl, rfl, plS_fr sa pl v, TA_leaf sa pl v _ (by omega) (by omega) (by omega), List.nodup_cons.mpr ⟨(fun h => by cases h), List.nodup_nil⟩, fun j hj => ?_, by (try simp only []); omega, by omega⟩
        rw [List.mem_singleton.mp hj]
        omega
  intro k
  induction k with
  | zero =>
    intro hk d p pl sf sa hd h
    obtain ⟨h22, h23, h26, h17, hpe, he, htb, hplp⟩ := id h
    have hb := bl_le (tb := sa 32) hpe
    have hit : itemP (sa 32) e 0 p = itemB (sa 32) e none p := rfl
    cases hs1 : sgP (sa 32) e p 40 with
    | true =>
      have hr : itemP (sa 32) e 0 p = .inr (bl (sa 32) e p) := by
        rw [hit]; unfold itemB; rw [hs1]; rfl
      have hS := m_sign (d := d - 1) (c := 40) (by omega) h22 h23 he hpe htb (by omega)
      rw [hs1] at hS
      simp only [if_true] at hS
      rw [sfP_17 sf _ _ _ h17] at hS
      have e26 : ∀ x y z, sfR sf x y z 26 = 12 := fun x y z => by show sf 26 = 12; omega
      rw [hr]
      refine MM.of2 (by decide +kernel) rfl (Nat.le_of_ble_eq_true rfl) (fun L g hL X C => ?_)
      refine C.aload_n dX9_readItem_0 rfl ?_
      refine C.bi dX9_readItem_1 (by decide) ?_
      refine C.mcall hL (hS) cw_X9_sign ml_X9_131 im_X9_sign sl_X9_sign dX9_readItem_3 rfl rfl (by omega) (Nat.le_refl _) (Nat.le_refl _) (Nat.le_of_ble_eq_true rfl) rfl (fun r3 sf3 sa3 hR3 => ?_)
      obtain ⟨rfl, hs, ha⟩ := hR3
      rw [hs, ha]
      clear hs ha
      refine C.if_eqI (tgt := 64) dX9_readItem_6 (by decide) (by decide) (fun hc6 => absurd hc6 (by decide)) (fun hc6 => ?_)
      refine C.aload_n dX9_readItem_9 rfl ?_
      refine C.mget hL gf_X9_135 dX9_readItem_10 rfl ?_
      refine C.topI (e26 _ _ _) ?_
      refine C.bi dX9_readItem_13 (by decide) ?_
      refine C.icmp_neI (tgt := 20) dX9_readItem_15 (by decide) (by omega) (by omega) (fun hc15 => absurd hc15 (fun h => h rfl)) (fun hc15 => ?_)
      refine C.ic dX9_readItem_18 ?_
      refine C.retI rfl rfl dX9_readItem_19 (Nat.le_refl _) (Nat.le_refl _) ⟨_, _, ?_, rfl, rfl⟩
      exact ⟨_, _, rfl, rfl, Fr.rf⟩
    | false =>
      cases hs2 : psP (sa 32) e p zNot with
      | true =>
        have hr : itemP (sa 32) e 0 p = .inr (bl (sa 32) e p) := by
          rw [hit]; unfold itemB; rw [hs1, hs2]; rfl
        have hS := m_sign (d := d - 1) (c := 40) (by omega) h22 h23 he hpe htb (by omega)
        rw [hs1] at hS
        simp only [Bool.false_eq_true, if_false] at hS
        rw [sfP_17 sf _ _ _ h17] at hS
        have hP := m_passes (d := d - 1) (p := bl (sa 32) e p) (e := e) (j := 17) (zs := zNot) (sf := sfR sf (bl (sa 32) e p) (bl (sa 32) e p) pl) (sa := sa) (by omega) rfl h23 he hb htb tNot
        rw [psP_bl, hs2] at hP
        simp only [if_true] at hP
        rw [sfP_R, bl_bl] at hP
        have e26 : ∀ x y z, sfR sf x y z 26 = 12 := fun x y z => by show sf 26 = 12; omega
        rw [hr]
        refine MM.of2 (by decide +kernel) rfl (Nat.le_of_ble_eq_true rfl) (fun L g hL X C => ?_)
        refine C.aload_n dX9_readItem_0 rfl ?_
        refine C.bi dX9_readItem_1 (by decide) ?_
        refine C.mcall hL (hS) cw_X9_sign ml_X9_131 im_X9_sign sl_X9_sign dX9_readItem_3 rfl rfl (by omega) (Nat.le_refl _) (Nat.le_refl _) (Nat.le_of_ble_eq_true rfl) rfl (fun r3 sf3 sa3 hR3 => ?_)
        obtain ⟨rfl, hs, ha⟩ := hR3
        rw [hs, ha]
        clear hs ha
        refine C.if_eqI (tgt := 64) dX9_readItem_6 (by decide) (by decide) (fun hc6 => ?_) (fun hc6 => absurd hc6 (fun h => h rfl))
        refine C.aload_n dX9_readItem_64 rfl ?_
        refine C.lds dX9_readItem_65 (j := 17) rfl ?_
        refine C.mcall hL (hP) cw_X9_passes ml_X9_143 im_X9_passes sl_X9_passes dX9_readItem_67 rfl rfl (by omega) (Nat.le_refl _) (Nat.le_refl _) (Nat.le_of_ble_eq_true rfl) rfl (fun r67 sf67 sa67 hR67 => ?_)
        obtain ⟨rfl, hs, ha⟩ := hR67
        rw [hs, ha]
        clear hs ha
        refine C.if_eqI (tgt := 130) dX9_readItem_70 (by decide) (by decide) (fun hc70 => absurd hc70 (by decide)) (fun hc70 => ?_)
        refine C.aload_n dX9_readItem_73 rfl ?_
        refine C.mget hL gf_X9_135 dX9_readItem_74 rfl ?_
        refine C.topI (e26 _ _ _) ?_
        refine C.bi dX9_readItem_77 (by decide) ?_
        refine C.icmp_neI (tgt := 84) dX9_readItem_79 (by decide) (by omega) (by omega) (fun hc79 => absurd hc79 (fun h => h rfl)) (fun hc79 => ?_)
        refine C.ic dX9_readItem_82 ?_
        refine C.retI rfl rfl dX9_readItem_83 (Nat.le_refl _) (Nat.le_refl _) ⟨_, _, ?_, rfl, rfl⟩
        exact ⟨_, _, rfl, rfl, Fr.rf⟩
      | false => exact rest 0 none hk hd h hs1 hs2 hit
  | succ k ih =>
    intro hk d p pl sf sa hd h
    obtain ⟨h22, h23, h26, h17, hpe, he, htb, hplp⟩ := id h
    have hb := bl_le (tb := sa 32) hpe
    have hb2 := bl_ge (sa 32) e p
    have hit : itemP (sa 32) e (k + 1) p = itemB (sa 32) e (some (itemP (sa 32) e k)) p := rfl
    have ihI := @ih (by omega)
    have e26 : sf 26 = 11 - (k : Int) := by omega
    have ed : ∀ x y z, va_up (sfR sf x y z) 26 (sf 26 + 1) = sfR (va_up sf 26 (12 - (k : Int))) x y z := fun x y z => by
      rw [sfR_26u]; congr 2; omega
    have eu : ∀ x y z, va_up (sfR (va_up sf 26 (12 - (k : Int))) x y z) 26 (12 - (k : Int) - 1) = sfR sf x y z := fun x y z => sfR_26 sf x y z _ _ (by omega)
    cases hs1 : sgP (sa 32) e p 40 with
    | true =>
      have hlt := sgP_lt hs1
      have hS := m_sign (d := d - 1) (c := 40) (by omega) h22 h23 he hpe htb (by omega)
      rw [hs1] at hS
      simp only [if_true] at hS
      rw [sfP_17 sf _ _ _ h17] at hS
      have hM := m_readCond (k := k) (e := e) (by omega) (fun h1 h2 => m_readAllOf (by omega) ihI h1 h2) (d := d - 1) (p := bl (sa 32) e p + 1) (pl := pl) (sf := sfR (va_up sf 26 (12 - (k : Int))) ((bl (sa 32) e p + 1 : Nat) : Int) (bl (sa 32) e p) pl) (sa := sa) (by omega) ⟨rfl, h23, rfl, rfl, by omega, he, htb, by omega⟩
      cases hf : allOf (sa 32) e zOr .or (allOf (sa 32) e zAnd .and (itemP (sa 32) e k)) (bl (sa 32) e p + 1) with
      | inr b1 =>
        rw [hf] at hM
        have hr : itemP (sa 32) e (k + 1) p = .inr b1 := by
          rw [hit]; unfold itemB; rw [hs1]; simp only [if_true, hf]; rfl
        rw [hr]
        refine MM.of2 (by decide +kernel) rfl (Nat.le_of_ble_eq_true rfl) (fun L g hL X C => ?_)
        refine C.aload_n dX9_readItem_0 rfl ?_
        refine C.bi dX9_readItem_1 (by decide) ?_
        refine C.mcall hL (hS) cw_X9_sign ml_X9_131 im_X9_sign sl_X9_sign dX9_readItem_3 rfl rfl (by omega) (Nat.le_refl _) (Nat.le_refl _) (Nat.le_of_ble_eq_true rfl) rfl (fun r3 sf3 sa3 hR3 => ?_)
        obtain ⟨rfl, hs, ha⟩ := hR3
        rw [hs, ha]
        clear hs ha
        refine C.if_eqI (tgt := 64) dX9_readItem_6 (by decide) (by decide) (fun hc6 => absurd hc6 (by decide)) (fun hc6 => ?_)
        refine C.aload_n dX9_readItem_9 rfl ?_
        refine C.mget hL gf_X9_135 dX9_readItem_10 rfl ?_
        refine C.topI (b := sf 26) rfl ?_
        refine C.bi dX9_readItem_13 (by decide) ?_
        refine C.icmp_neI (tgt := 20) dX9_readItem_15 (by decide) (by omega) (by omega) (fun hc15 => ?_) (fun hc15 => absurd hc15 (by omega))
        refine C.aload_n dX9_readItem_20 rfl ?_
        refine C.dup dX9_readItem_21 rfl ?_
        refine C.mget hL gf_X9_135 dX9_readItem_22 rfl ?_
        refine C.ic dX9_readItem_25 ?_
        refine C.iaddI dX9_readItem_26 ?_
        refine C.mput hL pf_X9_135 dX9_readItem_27 (by decide) rfl ?_
        rw [show ∀ x y z, va_up (sfR sf x y z) 26 (sfR sf x y z 26 + 1) = sfR (va_up sf 26 (12 - (k : Int))) x y z from ed]
        refine C.aload_n dX9_readItem_30 rfl ?_
        refine C.mcall hL (hM) cw_X9_readCond ml_X9_138 im_X9_readCond sl_X9_readCond dX9_readItem_31 rfl rfl (by omega) (Nat.le_refl _) (Nat.le_refl _) (Nat.le_of_ble_eq_true rfl) rfl (fun r31 sf31 sa31 hR31 => ?_)
        obtain ⟨p9, pl9, rfl, hs, hF9⟩ := hR31
        rw [hs, sfR_R]
        clear hs
        refine C.istore_n dX9_readItem_34 (by decide) rfl ?_
        refine C.aload_n dX9_readItem_35 rfl ?_
        refine C.dup dX9_readItem_36 rfl ?_
        refine C.mget hL gf_X9_135 dX9_readItem_37 rfl ?_
        refine C.ic dX9_readItem_40 ?_
        refine C.isubI dX9_readItem_41 ?_
        refine C.mput hL pf_X9_135 dX9_readItem_42 (by decide) rfl ?_
        rw [show ∀ x y z, va_up (sfR (va_up sf 26 (12 - (k : Int))) x y z) 26 (sfR (va_up sf 26 (12 - (k : Int))) x y z 26 - 1) = sfR sf x y z from eu]
        refine C.iload_n dX9_readItem_45 rfl ?_
        refine C.if_ltI (tgt := 62) dX9_readItem_46 (by decide) (by omega) (fun hc46 => ?_) (fun hc46 => absurd hc46 (by omega))
        refine C.ic dX9_readItem_62 ?_
        refine C.retI rfl rfl dX9_readItem_63 (Nat.le_refl _) (Nat.le_refl _) ⟨_, _, ?_, rfl, rfl⟩
        exact ⟨_, _, rfl, rfl, hF9⟩
      | inl q9 =>
        rw [hf] at hM
        obtain ⟨g1, g2, g3, g4⟩ := condP_good (sa 32) e k _ (by omega) q9.1 q9.2 hf
        have hbq := bl_le (tb := sa 32) g2
        have hbq2 := bl_ge (sa 32) e q9.2
        cases hs4 : sgP (sa 32) e q9.2 41 with
        | true =>
          have hlt2 := sgP_lt hs4
          have hr : itemP (sa 32) e (k + 1) p = .inl (q9.1, bl (sa 32) e q9.2 + 1) := by
            rw [hit]; unfold itemB; rw [hs1]; simp only [if_true, hf, bnd, hs4]
          rw [hr]
          refine MM.of2 (by decide +kernel) rfl (Nat.le_of_ble_eq_true rfl) (fun L g hL X C => ?_)
          refine C.aload_n dX9_readItem_0 rfl ?_
          refine C.bi dX9_readItem_1 (by decide) ?_
          refine C.mcall hL (hS) cw_X9_sign ml_X9_131 im_X9_sign sl_X9_sign dX9_readItem_3 rfl rfl (by omega) (Nat.le_refl _) (Nat.le_refl _) (Nat.le_of_ble_eq_true rfl) rfl (fun r3 sf3 sa3 hR3 => ?_)
          obtain ⟨rfl, hs, ha⟩ := hR3
          rw [hs, ha]
          clear hs ha
          refine C.if_eqI (tgt := 64) dX9_readItem_6 (by decide) (by decide) (fun hc6 => absurd hc6 (by decide)) (fun hc6 => ?_)
          refine C.aload_n dX9_readItem_9 rfl ?_
          refine C.mget hL gf_X9_135 dX9_readItem_10 rfl ?_
          refine C.topI (b := sf 26) rfl ?_
          refine C.bi dX9_readItem_13 (by decide) ?_
          refine C.icmp_neI (tgt := 20) dX9_readItem_15 (by decide) (by omega) (by omega) (fun hc15 => ?_) (fun hc15 => absurd hc15 (by omega))
          refine C.aload_n dX9_readItem_20 rfl ?_
          refine C.dup dX9_readItem_21 rfl ?_
          refine C.mget hL gf_X9_135 dX9_readItem_22 rfl ?_
          refine C.ic dX9_readItem_25 ?_
          refine C.iaddI dX9_readItem_26 ?_
          refine C.mput hL pf_X9_135 dX9_readItem_27 (by decide) rfl ?_
          rw [show ∀ x y z, va_up (sfR sf x y z) 26 (sfR sf x y z 26 + 1) = sfR (va_up sf 26 (12 - (k : Int))) x y z from ed]
          refine C.aload_n dX9_readItem_30 rfl ?_
          refine C.mcall hL (hM) cw_X9_readCond ml_X9_138 im_X9_readCond sl_X9_readCond dX9_readItem_31 rfl rfl (by omega) (Nat.le_refl _) (Nat.le_refl _) (Nat.le_of_ble_eq_true rfl) rfl (fun r31 sf31 sa31 hR31 => ?_)
          obtain ⟨x9, pl9, b9, fp9, rfl, hs, hF9, hT9, hn9, hr9, hb9, hl9⟩ := hR31
          rw [hs, sfR_R]
          clear hs
          have hx9 := hT9.lt.1
          have e32 : sa31 32 = sa 32 := hF9.1 32 (by decide) (by decide) (by decide)
          have hS2 := m_sign (d := d - 1) (p := q9.2) (e := e) (c := 41) (sf := sfR sf q9.2 b9 pl9) (sa := sa31) (by omega) rfl h23 he g2 (by intro j; rw [e32]; exact htb j) (by omega)
          rw [e32, hs4] at hS2
          simp only [if_true] at hS2
          rw [sfP_R] at hS2
          refine C.istore_n dX9_readItem_34 (by decide) rfl ?_
          refine C.aload_n dX9_readItem_35 rfl ?_
          refine C.dup dX9_readItem_36 rfl ?_
          refine C.mget hL gf_X9_135 dX9_readItem_37 rfl ?_
          refine C.ic dX9_readItem_40 ?_
          refine C.isubI dX9_readItem_41 ?_
          refine C.mput hL pf_X9_135 dX9_readItem_42 (by decide) rfl ?_
          rw [show ∀ x y z, va_up (sfR (va_up sf 26 (12 - (k : Int))) x y z) 26 (sfR (va_up sf 26 (12 - (k : Int))) x y z 26 - 1) = sfR sf x y z from eu]
          refine C.iload_n dX9_readItem_45 rfl ?_
          refine C.if_ltI (tgt := 62) dX9_readItem_46 (by decide) (by omega) (fun hc46 => absurd hc46 (by omega)) (fun hc46 => ?_)
          refine C.aload_n dX9_readItem_49 rfl ?_
          refine C.bi dX9_readItem_50 (by decide) ?_
          refine C.mcall hL (hS2) cw_X9_sign ml_X9_131 im_X9_sign sl_X9_sign dX9_readItem_52 rfl rfl (by omega) (Nat.le_refl _) (Nat.le_refl _) (Nat.le_of_ble_eq_true rfl) rfl (fun r52 sf52 sa52 hR52 => ?_)
          obtain ⟨rfl, hs, ha⟩ := hR52
          rw [hs, ha]
          clear hs ha
          refine C.if_eqI (tgt := 62) dX9_readItem_55 (by decide) (by decide) (fun hc55 => absurd hc55 (by decide)) (fun hc55 => ?_)
          refine C.iload_n dX9_readItem_58 rfl ?_
          refine C.goto (tgt := 63) dX9_readItem_59 (by decide) ?_
          refine C.retI rfl rfl dX9_readItem_63 (Nat.le_refl _) (Nat.le_refl _) ⟨_, _, ?_, rfl, rfl⟩
          exact ⟨x9, pl9, _, fp9, rfl, rfl, hF9, TA.mono _ (by omega) hT9, hn9, hr9, by (try simp only []); omega, hl9⟩
        | false =>
          have hr : itemP (sa 32) e (k + 1) p = .inr (bl (sa 32) e q9.2) := by
            rw [hit]; unfold itemB; rw [hs1]; simp only [if_true, hf, bnd, hs4]; rfl
          rw [hr]
          refine MM.of2 (by decide +kernel) rfl (Nat.le_of_ble_eq_true rfl) (fun L g hL X C => ?_)
          refine C.aload_n dX9_readItem_0 rfl ?_
          refine C.bi dX9_readItem_1 (by decide) ?_
          refine C.mcall hL (hS) cw_X9_sign ml_X9_131 im_X9_sign sl_X9_sign dX9_readItem_3 rfl rfl (by omega) (Nat.le_refl _) (Nat.le_refl _) (Nat.le_of_ble_eq_true rfl) rfl (fun r3 sf3 sa3 hR3 => ?_)
          obtain ⟨rfl, hs, ha⟩ := hR3
          rw [hs, ha]
          clear hs ha
          refine C.if_eqI (tgt := 64) dX9_readItem_6 (by decide) (by decide) (fun hc6 => absurd hc6 (by decide)) (fun hc6 => ?_)
          refine C.aload_n dX9_readItem_9 rfl ?_
          refine C.mget hL gf_X9_135 dX9_readItem_10 rfl ?_
          refine C.topI (b := sf 26) rfl ?_
          refine C.bi dX9_readItem_13 (by decide) ?_
          refine C.icmp_neI (tgt := 20) dX9_readItem_15 (by decide) (by omega) (by omega) (fun hc15 => ?_) (fun hc15 => absurd hc15 (by omega))
          refine C.aload_n dX9_readItem_20 rfl ?_
          refine C.dup dX9_readItem_21 rfl ?_
          refine C.mget hL gf_X9_135 dX9_readItem_22 rfl ?_
          refine C.ic dX9_readItem_25 ?_
          refine C.iaddI dX9_readItem_26 ?_
          refine C.mput hL pf_X9_135 dX9_readItem_27 (by decide) rfl ?_
          rw [show ∀ x y z, va_up (sfR sf x y z) 26 (sfR sf x y z 26 + 1) = sfR (va_up sf 26 (12 - (k : Int))) x y z from ed]
          refine C.aload_n dX9_readItem_30 rfl ?_
          refine C.mcall hL (hM) cw_X9_readCond ml_X9_138 im_X9_readCond sl_X9_readCond dX9_readItem_31 rfl rfl (by omega) (Nat.le_refl _) (Nat.le_refl _) (Nat.le_of_ble_eq_true rfl) rfl (fun r31 sf31 sa31 hR31 => ?_)
          obtain ⟨x9, pl9, b9, fp9, rfl, hs, hF9, hT9, hn9, hr9, hb9, hl9⟩ := hR31
          rw [hs, sfR_R]
          clear hs
          have hx9 := hT9.lt.1
          have e32 : sa31 32 = sa 32 := hF9.1 32 (by decide) (by decide) (by decide)
          have hS2 := m_sign (d := d - 1) (p := q9.2) (e := e) (c := 41) (sf := sfR sf q9.2 b9 pl9) (sa := sa31) (by omega) rfl h23 he g2 (by intro j; rw [e32]; exact htb j) (by omega)
          rw [e32, hs4] at hS2
          simp only [Bool.false_eq_true, if_false] at hS2
          rw [sfP_R] at hS2
          refine C.istore_n dX9_readItem_34 (by decide) rfl ?_
          refine C.aload_n dX9_readItem_35 rfl ?_
          refine C.dup dX9_readItem_36 rfl ?_
          refine C.mget hL gf_X9_135 dX9_readItem_37 rfl ?_
          refine C.ic dX9_readItem_40 ?_
          refine C.isubI dX9_readItem_41 ?_
          refine C.mput hL pf_X9_135 dX9_readItem_42 (by decide) rfl ?_
          rw [show ∀ x y z, va_up (sfR (va_up sf 26 (12 - (k : Int))) x y z) 26 (sfR (va_up sf 26 (12 - (k : Int))) x y z 26 - 1) = sfR sf x y z from eu]
          refine C.iload_n dX9_readItem_45 rfl ?_
          refine C.if_ltI (tgt := 62) dX9_readItem_46 (by decide) (by omega) (fun hc46 => absurd hc46 (by omega)) (fun hc46 => ?_)
          refine C.aload_n dX9_readItem_49 rfl ?_
          refine C.bi dX9_readItem_50 (by decide) ?_
          refine C.mcall hL (hS2) cw_X9_sign ml_X9_131 im_X9_sign sl_X9_sign dX9_readItem_52 rfl rfl (by omega) (Nat.le_refl _) (Nat.le_refl _) (Nat.le_of_ble_eq_true rfl) rfl (fun r52 sf52 sa52 hR52 => ?_)
          obtain ⟨rfl, hs, ha⟩ := hR52
          rw [hs, ha]
          clear hs ha
          refine C.if_eqI (tgt := 62) dX9_readItem_55 (by decide) (by decide) (fun hc55 => ?_) (fun hc55 => absurd hc55 (fun h => h rfl))
          refine C.ic dX9_readItem_62 ?_
          refine C.retI rfl rfl dX9_readItem_63 (Nat.le_refl _) (Nat.le_refl _) ⟨_, _, ?_, rfl, rfl⟩
          exact ⟨_, _, rfl, rfl, hF9.tr Fr.rf (Nat.le_refl _) (by omega) (Nat.le_refl pl) (Nat.le_refl _)⟩
    | false =>
      cases hs2 : psP (sa 32) e p zNot with
      | true =>
        have hw := psP_len hs2
        simp at hw
        have hw2 := wend_le (tb := sa 32) hb
        have hS := m_sign (d := d - 1) (c := 40) (by omega) h22 h23 he hpe htb (by omega)
        rw [hs1] at hS
        simp only [Bool.false_eq_true, if_false] at hS
        rw [sfP_17 sf _ _ _ h17] at hS
        have hP := m_passes (d := d - 1) (p := bl (sa 32) e p) (e := e) (j := 17) (zs := zNot) (sf := sfR sf (bl (sa 32) e p) (bl (sa 32) e p) pl) (sa := sa) (by omega) rfl h23 he hb htb tNot
        rw [psP_bl, hs2] at hP
        simp only [if_true] at hP
        rw [sfP_R, bl_bl] at hP
        have hM := ihI (d := d - 1) (p := wend (sa 32) e (bl (sa 32) e p)) (pl := pl) (sf := sfR (va_up sf 26 (12 - (k : Int))) (wend (sa 32) e (bl (sa 32) e p)) (bl (sa 32) e p) pl) (sa := sa) (by omega) ⟨rfl, h23, rfl, rfl, hw2, he, htb, by omega⟩
        cases hf : itemP (sa 32) e k (wend (sa 32) e (bl (sa 32) e p)) with
        | inr b1 =>
          rw [hf] at hM
          have hr : itemP (sa 32) e (k + 1) p = .inr b1 := by
            rw [hit]; unfold itemB; rw [hs1, hs2]; simp only [Bool.false_eq_true, if_false, if_true, hf]; rfl
          rw [hr]
          refine MM.of2 (by decide +kernel) rfl (Nat.le_of_ble_eq_true rfl) (fun L g hL X C => ?_)
          refine C.aload_n dX9_readItem_0 rfl ?_
          refine C.bi dX9_readItem_1 (by decide) ?_
          refine C.mcall hL (hS) cw_X9_sign ml_X9_131 im_X9_sign sl_X9_sign dX9_readItem_3 rfl rfl (by omega) (Nat.le_refl _) (Nat.le_refl _) (Nat.le_of_ble_eq_true rfl) rfl (fun r3 sf3 sa3 hR3 => ?_)
          obtain ⟨rfl, hs, ha⟩ := hR3
          rw [hs, ha]
          clear hs ha
          refine C.if_eqI (tgt := 64) dX9_readItem_6 (by decide) (by decide) (fun hc6 => ?_) (fun hc6 => absurd hc6 (fun h => h rfl))
          refine C.aload_n dX9_readItem_64 rfl ?_
          refine C.lds dX9_readItem_65 (j := 17) rfl ?_
          refine C.mcall hL (hP) cw_X9_passes ml_X9_143 im_X9_passes sl_X9_passes dX9_readItem_67 rfl rfl (by omega) (Nat.le_refl _) (Nat.le_refl _) (Nat.le_of_ble_eq_true rfl) rfl (fun r67 sf67 sa67 hR67 => ?_)
          obtain ⟨rfl, hs, ha⟩ := hR67
          rw [hs, ha]
          clear hs ha
          refine C.if_eqI (tgt := 130) dX9_readItem_70 (by decide) (by decide) (fun hc70 => absurd hc70 (by decide)) (fun hc70 => ?_)
          refine C.aload_n dX9_readItem_73 rfl ?_
          refine C.mget hL gf_X9_135 dX9_readItem_74 rfl ?_
          refine C.topI (b := sf 26) rfl ?_
          refine C.bi dX9_readItem_77 (by decide) ?_
          refine C.icmp_neI (tgt := 84) dX9_readItem_79 (by decide) (by omega) (by omega) (fun hc79 => ?_) (fun hc79 => absurd hc79 (by omega))
          refine C.aload_n dX9_readItem_84 rfl ?_
          refine C.dup dX9_readItem_85 rfl ?_
          refine C.mget hL gf_X9_135 dX9_readItem_86 rfl ?_
          refine C.ic dX9_readItem_89 ?_
          refine C.iaddI dX9_readItem_90 ?_
          refine C.mput hL pf_X9_135 dX9_readItem_91 (by decide) rfl ?_
          rw [show ∀ x y z, va_up (sfR sf x y z) 26 (sfR sf x y z 26 + 1) = sfR (va_up sf 26 (12 - (k : Int))) x y z from ed]
          refine C.aload_n dX9_readItem_94 rfl ?_
          refine C.mcall hL (hM) cw_X9_readItem ml_X9_146 im_X9_readItem sl_X9_readItem dX9_readItem_95 rfl rfl (by omega) (Nat.le_refl _) (Nat.le_refl _) (Nat.le_of_ble_eq_true rfl) rfl (fun r95 sf95 sa95 hR95 => ?_)
          obtain ⟨p9, pl9, rfl, hs, hF9⟩ := hR95
          rw [hs, sfR_R]
          clear hs
          refine C.istore_n dX9_readItem_98 (by decide) rfl ?_
          refine C.aload_n dX9_readItem_99 rfl ?_
          refine C.dup dX9_readItem_100 rfl ?_
          refine C.mget hL gf_X9_135 dX9_readItem_101 rfl ?_
          refine C.ic dX9_readItem_104 ?_
          refine C.isubI dX9_readItem_105 ?_
          refine C.mput hL pf_X9_135 dX9_readItem_106 (by decide) rfl ?_
          rw [show ∀ x y z, va_up (sfR (va_up sf 26 (12 - (k : Int))) x y z) 26 (sfR (va_up sf 26 (12 - (k : Int))) x y z 26 - 1) = sfR sf x y z from eu]
          refine C.iload_n dX9_readItem_109 rfl ?_
          refine C.if_geI (tgt := 115) dX9_readItem_110 (by decide) (by omega) (fun hc110 => absurd hc110 (by omega)) (fun hc110 => ?_)
          refine C.ic dX9_readItem_113 ?_
          refine C.retI rfl rfl dX9_readItem_114 (Nat.le_refl _) (Nat.le_refl _) ⟨_, _, ?_, rfl, rfl⟩
          exact ⟨_, _, rfl, rfl, hF9⟩
        | inl q9 =>
          rw [hf] at hM
          obtain ⟨g1, g2, g3, g4⟩ := itemP_good (sa 32) e k _ hw2 q9.1 q9.2 hf
          have hr : itemP (sa 32) e (k + 1) p = .inl (.not q9.1, q9.2) := by
            rw [hit]; unfold itemB; rw [hs1, hs2]; simp only [Bool.false_eq_true, if_false, if_true, hf]; rfl
          rw [hr]
          refine MM.of2 (by decide +kernel) rfl (Nat.le_of_ble_eq_true rfl) (fun L g hL X C => ?_)
          refine C.aload_n dX9_readItem_0 rfl ?_
          refine C.bi dX9_readItem_1 (by decide) ?_
          refine C.mcall hL (hS) cw_X9_sign ml_X9_131 im_X9_sign sl_X9_sign dX9_readItem_3 rfl rfl (by omega) (Nat.le_refl _) (Nat.le_refl _) (Nat.le_of_ble_eq_true rfl) rfl (fun r3 sf3 sa3 hR3 => ?_)
          obtain ⟨rfl, hs, ha⟩ := hR3
          rw [hs, ha]
          clear hs ha
          refine C.if_eqI (tgt := 64) dX9_readItem_6 (by decide) (by decide) (fun hc6 => ?_) (fun hc6 => absurd hc6 (fun h => h rfl))
          refine C.aload_n dX9_readItem_64 rfl ?_
          refine C.lds dX9_readItem_65 (j := 17) rfl ?_
          refine C.mcall hL (hP) cw_X9_passes ml_X9_143 im_X9_passes sl_X9_passes dX9_readItem_67 rfl rfl (by omega) (Nat.le_refl _) (Nat.le_refl _) (Nat.le_of_ble_eq_true rfl) rfl (fun r67 sf67 sa67 hR67 => ?_)
          obtain ⟨rfl, hs, ha⟩ := hR67
          rw [hs, ha]
          clear hs ha
          refine C.if_eqI (tgt := 130) dX9_readItem_70 (by decide) (by decide) (fun hc70 => absurd hc70 (by decide)) (fun hc70 => ?_)
          refine C.aload_n dX9_readItem_73 rfl ?_
          refine C.mget hL gf_X9_135 dX9_readItem_74 rfl ?_
          refine C.topI (b := sf 26) rfl ?_
          refine C.bi dX9_readItem_77 (by decide) ?_
          refine C.icmp_neI (tgt := 84) dX9_readItem_79 (by decide) (by omega) (by omega) (fun hc79 => ?_) (fun hc79 => absurd hc79 (by omega))
          refine C.aload_n dX9_readItem_84 rfl ?_
          refine C.dup dX9_readItem_85 rfl ?_
          refine C.mget hL gf_X9_135 dX9_readItem_86 rfl ?_
          refine C.ic dX9_readItem_89 ?_
          refine C.iaddI dX9_readItem_90 ?_
          refine C.mput hL pf_X9_135 dX9_readItem_91 (by decide) rfl ?_
          rw [show ∀ x y z, va_up (sfR sf x y z) 26 (sfR sf x y z 26 + 1) = sfR (va_up sf 26 (12 - (k : Int))) x y z from ed]
          refine C.aload_n dX9_readItem_94 rfl ?_
          refine C.mcall hL (hM) cw_X9_readItem ml_X9_146 im_X9_readItem sl_X9_readItem dX9_readItem_95 rfl rfl (by omega) (Nat.le_refl _) (Nat.le_refl _) (Nat.le_of_ble_eq_true rfl) rfl (fun r95 sf95 sa95 hR95 => ?_)
          obtain ⟨x9, pl9, b9, fp9, rfl, hs, hF9, hT9, hn9, hr9, hb9, hl9⟩ := hR95
          rw [hs, sfR_R]
          clear hs
          have hx9 := hT9.lt
          have hPl := plS_fr sa95 pl9 10
          have hTp : TA (plS sa95 pl9 10 29) (plS sa95 pl9 10 30) (plS sa95 pl9 10 31) (2 * k + 1) x9 q9.1 fp9 := TA.congr _ hT9 hn9 (fun j hj => hPl.2 29 j (Or.inl (hr9 j hj).2)) (fun j hj => hPl.2 30 j (Or.inl (hr9 j hj).2)) (fun j hj _ => hPl.2 31 j (Or.inl (hr9 j hj).2))
          have hch0 : chn (plS sa95 pl9 10 31) (plS sa95 pl9 10 30 pl9) (([] : List QT).map (fun q => q.1)) := va_up_self (sa95 30) _ _
          have hnd0 : (pl9 :: (([] : List QT) ++ [((x9, q9.1, fp9) : QT)]).flatMap (fun q => q.2.2)).Nodup := by
            simp only [List.nil_append, List.flatMap_cons, List.flatMap_nil, List.append_nil]
            exact List.nodup_cons.mpr ⟨fun h => by have := hr9 pl9 h; omega, hn9⟩
          have hadd := ptS_add (N := 2 * k + 1) (q0 := ((x9, q9.1, fp9) : QT)) hch0 (fun q hq => by rw [List.mem_singleton.mp hq]; exact hTp) hnd0
          have hxr := hr9 x9 hx9.2
          refine C.istore_n dX9_readItem_98 (by decide) rfl ?_
          refine C.aload_n dX9_readItem_99 rfl ?_
          refine C.dup dX9_readItem_100 rfl ?_
          refine C.mget hL gf_X9_135 dX9_readItem_101 rfl ?_
          refine C.ic dX9_readItem_104 ?_
          refine C.isubI dX9_readItem_105 ?_
          refine C.mput hL pf_X9_135 dX9_readItem_106 (by decide) rfl ?_
          rw [show ∀ x y z, va_up (sfR (va_up sf 26 (12 - (k : Int))) x y z) 26 (sfR (va_up sf 26 (12 - (k : Int))) x y z 26 - 1) = sfR sf x y z from eu]
          refine C.iload_n dX9_readItem_109 rfl ?_
          refine C.if_geI (tgt := 115) dX9_readItem_110 (by decide) (by omega) (fun hc110 => ?_) (fun hc110 => absurd hc110 (by omega))
          refine C.aload_n dX9_readItem_115 rfl ?_
          refine C.bi dX9_readItem_116 (by decide) ?_
          refine C.mcall hL (m_place3 (d := d - 1) (pl := pl9) (by omega)) cw_X9_place ml_X9_68 im_X9_place sl_X9_place dX9_readItem_118 rfl rfl (by omega) (Nat.le_refl _) (Nat.le_refl _) (Nat.le_of_ble_eq_true rfl) rfl (fun r118 sf118 sa118 hR118 => ?_)
          obtain ⟨rfl, hs, ha⟩ := hR118
          rw [hs, ha]
          clear hs ha
          refine C.istore_n dX9_readItem_121 (by decide) rfl ?_
          refine C.aload_n dX9_readItem_122 rfl ?_
          refine C.iload_n dX9_readItem_123 rfl ?_
          refine C.iload_n dX9_readItem_124 rfl ?_
          refine C.mcall hL (m_puts (d := d - 1) (into := pl9) (one := x9) (ks := []) (by omega) hx9.1 (fun j hj => by cases hj) (fun hj => by cases hj) hch0) cw_X9_puts ml_X9_75 im_X9_puts sl_X9_puts dX9_readItem_125 rfl rfl (by omega) (Nat.le_refl _) (Nat.le_refl _) (Nat.le_of_ble_eq_true rfl) rfl (fun r125 sf125 sa125 hR125 => ?_)
          obtain ⟨rfl, hs, ha⟩ := hR125
          rw [hs, ha]
          clear hs ha
          refine C.iload_n dX9_readItem_128 rfl ?_
          refine C.retI rfl rfl dX9_readItem_129 (Nat.le_refl _) (Nat.le_refl _) ⟨_, _, ?_, rfl, rfl⟩
          refine ⟨pl9, pl9 + 1, _, pl9 :: fp9, rfl, rfl, ?_, TA.mono (2 * k + 2) (by omega) ⟨by omega, [((x9, q9.1, fp9) : QT)], hadd.1, hadd.2, by simp, ?_⟩, by simpa using hnd0, fun j hj => ?_, by (try simp only []); omega, by omega⟩
          · exact (hF9.tr hPl (Nat.le_refl pl) (by omega) (by omega) (Nat.le_refl _)).tr (ptS_Fr (lo := pl) (hi := pl9 + 1) (fun j hj => by cases hj) (by omega) (by omega)) (Nat.le_refl _) (Nat.le_refl _) (Nat.le_refl _) (Nat.le_refl _)
          · have e29 : ptS (plS sa95 pl9 10) [] pl9 x9 29 pl9 = 10 := by
              rw [ptS_fr 29 pl9 (by simp) (by simp)]
              exact va_up_self (sa95 29) _ _
            rw [e29]
            exact Or.inr (Or.inl ⟨q9.1, rfl, rfl, rfl⟩)
          · rcases List.mem_cons.mp hj with rfl | hj
            · omega
            · have := hr9 j hj; omega
      | false => exact rest (k + 1) (some (itemP (sa 32) e k)) hk hd h hs1 hs2 hit
