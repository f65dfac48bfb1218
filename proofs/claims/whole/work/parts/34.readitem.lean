theorem sfR_26u (sf : SF) (p b q x : Int) : va_up (sfR sf p b q) 26 x = sfR (va_up sf 26 x) p b q := sf_ext rfl rfl rfl rfl (fun j a b c d => by rw [va_up_ne _ _ d, sfR_o a b c, sfR_o a b c, va_up_ne _ _ d])
theorem psP_bl (tb : Nat → Int) (e p : Nat) (zs : List Int) : psP tb e (bl tb e p) zs = psP tb e p zs := by unfold psP; rw [bl_bl]
theorem m_place3 {d : Nat} {sf : SF} {sa : SA} {w : Int} {p b : Int} {pl : Nat} (hl : pl < 1400) : MM yX9_place cX9_place 2 (some .int) d [.int (iI w)] (sfR sf p b pl) sa (fun r sf' sa' => r = some (.int (iI pl)) ∧ sf' = sfR sf p b ((pl + 1 : Nat) : Int) ∧ sa' = plS sa pl w) := by
  have h := m_place2 (d := d) (sf := sfR sf p b pl) (sa := sa) (w := w) (pl := pl) rfl hl
  rw [sfR_17] at h
  exact h
theorem TA_leaf (sa : SA) (pl n D : Nat) (hpl : pl < 1400) (hn : n < 10) (hD : 1 ≤ D) : TA (plS sa pl n 29) (plS sa pl n 30) (plS sa pl n 31) D pl (.count n) [pl] :=
  TA.mono 1 hD ⟨hpl, [], va_up_self (sa 30) _ _, fun q hq => by cases hq, rfl, Or.inl ⟨n, hn, va_up_self (sa 29) _ _, rfl, rfl⟩⟩
set_option maxRecDepth 20000 in
set_option maxHeartbeats 4000000 in
theorem m_readItem {e : Nat} : ∀ (k : Nat), k ≤ 12 → ∀ {d p pl : Nat} {sf : SF} {sa : SA}, 6 + 3 * k ≤ d → RD k e p pl sf sa → MM yX9_readItem cX9_readItem 3 (some .int) d [] sf sa (RP (2 * k + 1) (itemP (sa 32) e k p) pl p sf sa) := by
  have tNot : TX 17 zNot := ⟨⟨_, rfl, by decide⟩, by decide, by decide⟩
  have tCase : TX 18 zCase := ⟨⟨_, rfl, by decide⟩, by decide, by decide⟩
  -- the parts that are alike at each depth
  have rest : ∀ (k : Nat) (rec : Option (Nat → RR)) {d p pl : Nat} {sf : SF} {sa : SA}, k ≤ 12 → 6 + 3 * k ≤ d → RD k e p pl sf sa → sgP (sa 32) e p 40 = false → psP (sa 32) e p zNot = false → itemP (sa 32) e k p = itemB (sa 32) e rec p → MM yX9_readItem cX9_readItem 3 (some .int) d [] sf sa (RP (2 * k + 1) (itemP (sa 32) e k p) pl p sf sa) := by
    intro k rec d p pl sf sa hk hd h hs1 hs2 hit
    obtain ⟨h22, h23, h26, h17, hpe, he, htb, hplp⟩ := id h
    have hb := bl_le (tb := sa 32) hpe
    have hb2 := bl_ge (sa 32) e p
    have hS := m_sign (d := d - 1) (c := 40) (by omega) h22 h23 he hpe htb (by omega)
    rw [hs1] at hS
    simp only [Bool.false_eq_true, if_false] at hS
    rw [sfP_17 sf _ _ _ h17] at hS
    have hP := m_passes (d := d - 1) (p := bl (sa 32) e p) (e := e) (j := 17) (zs := zNot) (sf := sfR sf (bl (sa 32) e p) (bl (sa 32) e p) pl) (sa := sa) (by omega) rfl h23 he hb htb tNot
    rw [psP_bl, hs2] at hP
    simp only [Bool.false_eq_true, if_false] at hP
    rw [sfP_R, bl_bl] at hP
    have hQ := m_passes (d := d - 1) (p := bl (sa 32) e p) (e := e) (j := 18) (zs := zCase) (sf := sfR sf (bl (sa 32) e p) (bl (sa 32) e p) pl) (sa := sa) (by omega) rfl h23 he hb htb tCase
    rw [psP_bl] at hQ
    cases hs3 : psP (sa 32) e p zCase with
    | false =>
      have hr : itemP (sa 32) e k p = .inr (bl (sa 32) e p) := by
        rw [hit]; unfold itemB; rw [hs1, hs2, hs3]; rfl
      rw [hs3] at hQ
      simp only [Bool.false_eq_true, if_false] at hQ
      rw [sfP_R, bl_bl] at hQ
      rw [hr]
      refine MM.of2 (by decide +kernel) rfl (Nat.le_of_ble_eq_true rfl) (fun L g hL X C => ?_)
      refine C.aload_n dX9_readItem_0 rfl ?_
      refine C.bi dX9_readItem_1 (by decide) ?_
      refine C.mcall hL (hS) cw_X9_sign ml_X9_131 im_X9_sign sl_X9_sign dX9_readItem_3 rfl rfl (by omega) (Nat.le_refl _) (Nat.le_refl _) (Nat.le_of_ble_eq_true rfl) rfl (fun r3 sf3 sa3 hR3 => ?_)
      obtain ⟨rfl, hs, ha⟩ := hR3
      rw [hs, ha]
      clear hs ha
      refine C.if_eqI (tgt := 64) dX9_readItem_6 (by decide) (by decide) (fun hc6 => ?_) (fun hc6 => absurd hc6 (fun h => h rfl))
      refine C.aload_n dX9_readItem_64 rfl ?_
      refine C.lds dX9_readItem_65 (j := 17) rfl ?_
      refine C.mcall hL (hP) cw_X9_passes ml_X9_143 im_X9_passes sl_X9_passes dX9_readItem_67 rfl rfl (by omega) (Nat.le_refl _) (Nat.le_refl _) (Nat.le_of_ble_eq_true rfl) rfl (fun r67 sf67 sa67 hR67 => ?_)
      obtain ⟨rfl, hs, ha⟩ := hR67
      rw [hs, ha]
      clear hs ha
      refine C.if_eqI (tgt := 130) dX9_readItem_70 (by decide) (by decide) (fun hc70 => ?_) (fun hc70 => absurd hc70 (fun h => h rfl))
      refine C.aload_n dX9_readItem_130 rfl ?_
      refine C.lds dX9_readItem_131 (j := 18) rfl ?_
      refine C.mcall hL (hQ) cw_X9_passes ml_X9_143 im_X9_passes sl_X9_passes dX9_readItem_133 rfl rfl (by omega) (Nat.le_refl _) (Nat.le_refl _) (Nat.le_of_ble_eq_true rfl) rfl (fun r133 sf133 sa133 hR133 => ?_)
      obtain ⟨rfl, hs, ha⟩ := hR133
      rw [hs, ha]
      clear hs ha
      refine C.if_neI (tgt := 141) dX9_readItem_136 (by decide) (by decide) (fun hc136 => absurd hc136 (fun h => h rfl)) (fun hc136 => ?_)
      refine C.ic dX9_readItem_139 ?_
      refine C.retI rfl rfl dX9_readItem_140 (Nat.le_refl _) (Nat.le_refl _) ⟨_, _, ?_, rfl, rfl⟩
      exact ⟨_, _, rfl, rfl, Fr.rf⟩
    | true =>
      rw [hs3] at hQ
      simp only [if_true] at hQ
      rw [sfP_R, bl_bl] at hQ
      have hw := psP_len hs3
      simp at hw
      have hw2 := wend_le (tb := sa 32) hb
      have hb3 := bl_le (tb := sa 32) hw2
      have hb4 := bl_ge (sa 32) e (wend (sa 32) e (bl (sa 32) e p))
      have hN := m_number (d := d - 1) (p := wend (sa 32) e (bl (sa 32) e p)) (e := e) (lo := 0) (hi := 5) (sf := sfR sf (wend (sa 32) e (bl (sa 32) e p)) (bl (sa 32) e p) pl) (sa := sa) (by omega) rfl h23 he hw2 htb (by omega) (by omega)
      rw [sfP_R] at hN
      have hvr := nmV_rng (sa 32) e (bl (sa 32) e (wend (sa 32) e (bl (sa 32) e p))) 0 5
      by_cases hv : nmV (sa 32) e (bl (sa 32) e (wend (sa 32) e (bl (sa 32) e p))) 0 5 < 0
      · have hr : itemP (sa 32) e k p = .inr (bl (sa 32) e (wend (sa 32) e (bl (sa 32) e p))) := by
          rw [hit]; unfold itemB; rw [hs1, hs2, hs3]; simp [hv]
        rw [hr]
        refine MM.of2 (by decide +kernel) rfl (Nat.le_of_ble_eq_true rfl) (fun L g hL X C => ?_)
        refine C.aload_n dX9_readItem_0 rfl ?_
        refine C.bi dX9_readItem_1 (by decide) ?_
        refine C.mcall hL (hS) cw_X9_sign ml_X9_131 im_X9_sign sl_X9_sign dX9_readItem_3 rfl rfl (by omega) (Nat.le_refl _) (Nat.le_refl _) (Nat.le_of_ble_eq_true rfl) rfl (fun r3 sf3 sa3 hR3 => ?_)
        obtain ⟨rfl, hs, ha⟩ := hR3
        rw [hs, ha]
        clear hs ha
        refine C.if_eqI (tgt := 64) dX9_readItem_6 (by decide) (by decide) (fun hc6 => ?_) (fun hc6 => absurd hc6 (fun h => h rfl))
        refine C.aload_n dX9_readItem_64 rfl ?_
        refine C.lds dX9_readItem_65 (j := 17) rfl ?_
        refine C.mcall hL (hP) cw_X9_passes ml_X9_143 im_X9_passes sl_X9_passes dX9_readItem_67 rfl rfl (by omega) (Nat.le_refl _) (Nat.le_refl _) (Nat.le_of_ble_eq_true rfl) rfl (fun r67 sf67 sa67 hR67 => ?_)
        obtain ⟨rfl, hs, ha⟩ := hR67
        rw [hs, ha]
        clear hs ha
        refine C.if_eqI (tgt := 130) dX9_readItem_70 (by decide) (by decide) (fun hc70 => ?_) (fun hc70 => absurd hc70 (fun h => h rfl))
        refine C.aload_n dX9_readItem_130 rfl ?_
        refine C.lds dX9_readItem_131 (j := 18) rfl ?_
        refine C.mcall hL (hQ) cw_X9_passes ml_X9_143 im_X9_passes sl_X9_passes dX9_readItem_133 rfl rfl (by omega) (Nat.le_refl _) (Nat.le_refl _) (Nat.le_of_ble_eq_true rfl) rfl (fun r133 sf133 sa133 hR133 => ?_)
        obtain ⟨rfl, hs, ha⟩ := hR133
        rw [hs, ha]
        clear hs ha
        refine C.if_neI (tgt := 141) dX9_readItem_136 (by decide) (by decide) (fun hc136 => ?_) (fun hc136 => absurd hc136 (by decide))
        refine C.aload_n dX9_readItem_141 rfl ?_
        refine C.ic dX9_readItem_142 ?_
        refine C.ic dX9_readItem_143 ?_
        refine C.mcall hL (hN) cw_X9_number ml_X9_151 im_X9_number sl_X9_number dX9_readItem_144 rfl rfl (by omega) (Nat.le_refl _) (Nat.le_refl _) (Nat.le_of_ble_eq_true rfl) rfl (fun r144 sf144 sa144 hR144 => ?_)
        obtain ⟨rfl, hs, ha⟩ := hR144
        rw [hs, ha]
        clear hs ha
        refine C.istore_n dX9_readItem_147 (by decide) rfl ?_
        refine C.iload_n dX9_readItem_148 rfl ?_
        refine C.if_geI (tgt := 156) dX9_readItem_149 (by decide) (by omega) (fun hc149 => absurd hc149 (by omega)) (fun hc149 => ?_)
        refine C.ic dX9_readItem_152 ?_
        refine C.goto (tgt := 161) dX9_readItem_153 (by decide) ?_
        refine C.retI rfl rfl dX9_readItem_161 (Nat.le_refl _) (Nat.le_refl _) ⟨_, _, ?_, rfl, rfl⟩
        exact ⟨_, _, rfl, rfl, Fr.rf⟩
      · obtain ⟨n1, n2, n3⟩ := nmV_pos (by omega) hv
        obtain ⟨v, hve⟩ : ∃ v : Nat, nmV (sa 32) e (bl (sa 32) e (wend (sa 32) e (bl (sa 32) e p))) 0 5 = v := ⟨_, (Int.toNat_of_nonneg n3).symm⟩
        have hr : itemP (sa 32) e k p = .inl (.count v, dend (sa 32) e (bl (sa 32) e (wend (sa 32) e (bl (sa 32) e p)))) := by
          rw [hit]; unfold itemB; rw [hs1, hs2, hs3]; simp only [Bool.false_eq_true, if_false, if_true, hve]; rw [if_neg (by omega)]; rfl
        have hde : dend (sa 32) e (bl (sa 32) e (wend (sa 32) e (bl (sa 32) e p))) ≤ e := sk_le hb3
        rw [hve] at hN
        rw [hr]
        refine MM.of2 (by decide +kernel) rfl (Nat.le_of_ble_eq_true rfl) (fun L g hL X C => ?_)
        refine C.aload_n dX9_readItem_0 rfl ?_
        refine C.bi dX9_readItem_1 (by decide) ?_
        refine C.mcall hL (hS) cw_X9_sign ml_X9_131 im_X9_sign sl_X9_sign dX9_readItem_3 rfl rfl (by omega) (Nat.le_refl _) (Nat.le_refl _) (Nat.le_of_ble_eq_true rfl) rfl (fun r3 sf3 sa3 hR3 => ?_)
        obtain ⟨rfl, hs, ha⟩ := hR3
        rw [hs, ha]
        clear hs ha
        refine C.if_eqI (tgt := 64) dX9_readItem_6 (by decide) (by decide) (fun hc6 => ?_) (fun hc6 => absurd hc6 (fun h => h rfl))
        refine C.aload_n dX9_readItem_64 rfl ?_
        refine C.lds dX9_readItem_65 (j := 17) rfl ?_
        refine C.mcall hL (hP) cw_X9_passes ml_X9_143 im_X9_passes sl_X9_passes dX9_readItem_67 rfl rfl (by omega) (Nat.le_refl _) (Nat.le_refl _) (Nat.le_of_ble_eq_true rfl) rfl (fun r67 sf67 sa67 hR67 => ?_)
        obtain ⟨rfl, hs, ha⟩ := hR67
        rw [hs, ha]
        clear hs ha
        refine C.if_eqI (tgt := 130) dX9_readItem_70 (by decide) (by decide) (fun hc70 => ?_) (fun hc70 => absurd hc70 (fun h => h rfl))
        refine C.aload_n dX9_readItem_130 rfl ?_
        refine C.lds dX9_readItem_131 (j := 18) rfl ?_
        refine C.mcall hL (hQ) cw_X9_passes ml_X9_143 im_X9_passes sl_X9_passes dX9_readItem_133 rfl rfl (by omega) (Nat.le_refl _) (Nat.le_refl _) (Nat.le_of_ble_eq_true rfl) rfl (fun r133 sf133 sa133 hR133 => ?_)
        obtain ⟨rfl, hs, ha⟩ := hR133
        rw [hs, ha]
        clear hs ha
        refine C.if_neI (tgt := 141) dX9_readItem_136 (by decide) (by decide) (fun hc136 => ?_) (fun hc136 => absurd hc136 (by decide))
        refine C.aload_n dX9_readItem_141 rfl ?_
        refine C.ic dX9_readItem_142 ?_
        refine C.ic dX9_readItem_143 ?_
        refine C.mcall hL (hN) cw_X9_number ml_X9_151 im_X9_number sl_X9_number dX9_readItem_144 rfl rfl (by omega) (Nat.le_refl _) (Nat.le_refl _) (Nat.le_of_ble_eq_true rfl) rfl (fun r144 sf144 sa144 hR144 => ?_)
        obtain ⟨rfl, hs, ha⟩ := hR144
        rw [hs, ha]
        clear hs ha
        refine C.istore_n dX9_readItem_147 (by decide) rfl ?_
        refine C.iload_n dX9_readItem_148 rfl ?_
        refine C.if_geI (tgt := 156) dX9_readItem_149 (by decide) (by omega) (fun hc149 => ?_) (fun hc149 => absurd hc149 (by omega))
        refine C.aload_n dX9_readItem_156 rfl ?_
        refine C.iload_n dX9_readItem_157 rfl ?_
        refine C.mcall hL (m_place3 (d := d - 1) (pl := pl) (by omega)) cw_X9_place ml_X9_68 im_X9_place sl_X9_place dX9_readItem_158 rfl rfl (by omega) (Nat.le_refl _) (Nat.le_refl _) (Nat.le_of_ble_eq_true rfl) rfl (fun r158 sf158 sa158 hR158 => ?_)
        obtain ⟨rfl, hs, ha⟩ := hR158
        rw [hs, ha]
        clear hs ha
        refine C.retI rfl rfl dX9_readItem_161 (Nat.le_refl _) (Nat.le_refl _) ⟨_, _, ?_, rfl, rfl⟩
        refine ⟨pl, pl + 1, _, [pl], rfl, rfl, plS_fr sa pl v, TA_leaf sa pl v _ (by omega) (by omega) (by omega), List.nodup_cons.mpr ⟨fun h => by cases h, List.nodup_nil⟩, fun j hj => ?_, by simp only []; omega, by omega⟩
        rw [List.mem_singleton.mp hj]
        omega
  sorry
