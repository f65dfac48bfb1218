/-- sentence 'to' as sentence 'from' -/
def cpS (sa : SA) (fr to : Nat) : SA := fun a j =>
  if a = 22 then (if 3 * to ≤ j ∧ j < 3 * to + 3 then sa 22 (3 * fr + (j - 3 * to)) else sa 22 j)
  else if a = 27 then (if 2 * to ≤ j ∧ j < 2 * to + 2 then sa 27 (2 * fr + (j - 2 * to)) else sa 27 j)
  else if a = 28 then (if 840 * to ≤ j ∧ j < 840 * to + 420 ∧ ((j - 840 * to : Nat) : Int) < sa 27 (2 * fr) then sa 28 (840 * fr + (j - 840 * to))
    else if 840 * to + 420 ≤ j ∧ j < 840 * to + 840 ∧ ((j - (840 * to + 420) : Nat) : Int) < sa 27 (2 * fr + 1) then sa 28 (840 * fr + (j - 840 * to)) else sa 28 j)
  else if (a = 21 ∨ a = 23 ∨ a = 24 ∨ a = 25 ∨ a = 26) ∧ j = to then sa a fr else sa a j
def cpR (s : SA) (fr to c : Nat) : SA := fun a j =>
  if a = 27 ∧ j = 2 * to + c then s 27 (2 * fr + c)
  else if a = 28 ∧ (2 * to + c) * 420 ≤ j ∧ ((j - (2 * to + c) * 420 : Nat) : Int) < s 27 (2 * fr + c) then s 28 ((2 * fr + c) * 420 + (j - (2 * to + c) * 420)) else s a j
theorem cp_4 (s : SA) (fr to : Nat) : va_up (va_up (va_up (va_up s 23 (va_up (s 23) to (s 23 fr))) 24 (va_up (s 24) to (s 24 fr))) 25 (va_up (s 25) to (s 25 fr))) 26 (va_up (s 26) to (s 26 fr)) = fun a j => if (a = 23 ∨ a = 24 ∨ a = 25 ∨ a = 26) ∧ j = to then s a fr else s a j := by
  funext a j
  simp only [va_up]
  by_cases hj : j = to
  · subst hj
    by_cases h1 : a = 26
    · subst h1; simp [va_up]
    by_cases h2 : a = 25
    · subst h2; simp [va_up]
    by_cases h3 : a = 24
    · subst h3; simp [va_up]
    by_cases h4 : a = 23
    · subst h4; simp [va_up]
    simp [h1, h2, h3, h4]
  · by_cases h1 : a = 26
    · subst h1; simp [va_up, hj]
    by_cases h2 : a = 25
    · subst h2; simp [va_up, hj]
    by_cases h3 : a = 24
    · subst h3; simp [va_up, hj]
    by_cases h4 : a = 23
    · subst h4; simp [va_up, hj]
    simp [h1, h2, h3, h4]
theorem cp_fin {sa s : SA} {fr to : Nat} (h0 : 0 ≤ sa 27 (2 * fr) ∧ sa 27 (2 * fr) ≤ 420) (h1 : 0 ≤ sa 27 (2 * fr + 1) ∧ sa 27 (2 * fr + 1) ≤ 420) (hs : ∀ a j, s a j = if a = 22 ∧ 3 * to ≤ j ∧ j < 3 * to + 3 then sa 22 (3 * fr + (j - 3 * to)) else if a = 21 ∧ j = to then sa 21 fr else sa a j) : cpR (cpR (va_up (va_up (va_up (va_up s 23 (va_up (s 23) to (s 23 fr))) 24 (va_up (s 24) to (s 24 fr))) 25 (va_up (s 25) to (s 25 fr))) 26 (va_up (s 26) to (s 26 fr))) fr to 0) fr to 1 = cpS sa fr to := by
  rw [cp_4]
  have e27 : ∀ j, s 27 j = sa 27 j := fun j => by rw [hs]; simp
  have e28 : ∀ j, s 28 j = sa 28 j := fun j => by rw [hs]; simp
  funext a j
  by_cases a27 : a = 27
  · subst a27
    unfold cpR cpS
    simp [e27]
    split
    · rename_i h; subst h; rw [if_neg (by omega), if_pos (by omega)]; congr 1; omega
    · split
      · rename_i h; subst h; rw [if_pos (by omega)]; congr 1; omega
      · rw [if_neg (by omega)]
  by_cases a28 : a = 28
  · subst a28
    unfold cpR cpS
    simp [e27, e28]
    have c1 : ¬ (2 * fr + 1 = 2 * to) := by omega
    simp only [if_neg c1]
    split
    · rename_i h
      rw [if_neg (by omega), if_neg (by omega), if_pos (by omega)]
      congr 1
      omega
    · rename_i h
      split
      · rename_i q
        rw [if_pos (by omega)]
        congr 1
        omega
      · rename_i q
        rw [if_neg (by omega), if_neg (by omega)]
  unfold cpR cpS
  simp only [a27, a28, false_and, if_false]
  rw [hs, hs]
  by_cases a22 : a = 22
  · subst a22; simp
  simp only [a22, false_and, if_false]
  by_cases a21 : a = 21
  · subst a21; simp
  simp only [a21, false_and, if_false, false_or]
set_option maxRecDepth 20000 in
theorem m_copies {d : Nat} {sf : SF} {sa : SA} {fr to : Nat} (hf : fr < 100) (ht : to < 100) (h0 : 0 ≤ sa 27 (2 * fr) ∧ sa 27 (2 * fr) ≤ 420) (h1 : 0 ≤ sa 27 (2 * fr + 1) ∧ sa 27 (2 * fr + 1) ≤ 420) (hz : sa 26 fr = 0 ∨ sa 26 fr = 1) : MM yX9_copies cX9_copies 5 none d [.int (iI fr), .int (iI to)] sf sa (fun r sf' sa' => r = none ∧ sf' = sf ∧ sa' = cpS sa fr to) := by
  refine MM.of2 (by decide +kernel) rfl (Nat.le_of_ble_eq_true rfl) (fun L g hL X C => ?_)
  have inner : ∀ (c : Nat), c < 2 → ∀ (s0 : SA), (0 ≤ s0 27 (2 * fr + c) ∧ s0 27 (2 * fr + c) ≤ 420) → (∀ w, X 0 0 L (ov sf (cpR s0 fr to c) g) 178 [some (.ref 20), some (.int (iI fr)), some (.int (iI to)), some (.int (iI c)), w] []) → ∀ (n k : Nat) (s : SA), (k : Int) + n = s0 27 (2 * fr + c) → (∀ a j, s a j = if a = 28 ∧ (2 * to + c) * 420 ≤ j ∧ j < (2 * to + c) * 420 + k then s0 28 ((2 * fr + c) * 420 + (j - (2 * to + c) * 420)) else if a = 27 ∧ j = 2 * to + c then s0 27 (2 * fr + c) else s0 a j) → X 0 0 L (ov sf s g) 123 [some (.ref 20), some (.int (iI fr)), some (.int (iI to)), some (.int (iI c)), some (.int (iI k))] [] := by
    intro c hc s0 hl hX n
    induction n with
    | zero =>
      intro k s hk hs
      have e27 : s 27 (2 * fr + c) = s0 27 (2 * fr + c) := by
        rw [hs]
        by_cases h : 2 * fr + c = 2 * to + c <;> simp [h]
      have et : ((2 : Int) * ↑fr + ↑c).toNat = 2 * fr + c := by omega
      have es : s = cpR s0 fr to c := by
        funext a j
        rw [hs]
        unfold cpR
        by_cases ha : a = 28
        · subst ha
          simp only [true_and, show ((28 : Nat) = 27) = False from by simp, false_and, if_false]
          by_cases hj : (2 * to + c) * 420 ≤ j
          · simp only [hj, true_and]
            by_cases hq : j < (2 * to + c) * 420 + k
            · rw [if_pos hq, if_pos (by omega)]
            · rw [if_neg hq, if_neg (by omega)]
          · simp [hj]
        · simp only [ha, false_and, if_false]
      subst es
      refine C.iload dX9_copies_123 rfl ?_
      refine C.aload_n dX9_copies_125 rfl ?_
      refine C.mget hL gf_X9_29 dX9_copies_126 rfl ?_
      refine C.ic dX9_copies_129 ?_
      refine C.iload_n dX9_copies_130 rfl ?_
      refine C.imulI dX9_copies_131 ?_
      refine C.iload_n dX9_copies_132 rfl ?_
      refine C.iaddI dX9_copies_133 ?_
      refine C.mald hL dX9_copies_134 (by decide) rfl (by decide) (by omega) ?_
      refine C.icmp_geI (tgt := 178) dX9_copies_135 (by decide) (by omega) (by rw [et, e27]; omega) (fun hc135 => ?_) (fun hc135 => absurd hc135 (by rw [et, e27] at hc135; omega))
      exact hX _
    | succ n ih =>
      intro k s hk hs
      have e27 : s 27 (2 * fr + c) = s0 27 (2 * fr + c) := by
        rw [hs]
        by_cases h : 2 * fr + c = 2 * to + c <;> simp [h]
      have et : ((2 : Int) * ↑fr + ↑c).toNat = 2 * fr + c := by omega
      have e1 : (((2 : Int) * ↑to + ↑c) * 420 + ↑k).toNat = (2 * to + c) * 420 + k := by omega
      have e2 : (((2 : Int) * ↑fr + ↑c) * 420 + ↑k).toNat = (2 * fr + c) * 420 + k := by omega
      refine C.iload dX9_copies_123 rfl ?_
      refine C.aload_n dX9_copies_125 rfl ?_
      refine C.mget hL gf_X9_29 dX9_copies_126 rfl ?_
      refine C.ic dX9_copies_129 ?_
      refine C.iload_n dX9_copies_130 rfl ?_
      refine C.imulI dX9_copies_131 ?_
      refine C.iload_n dX9_copies_132 rfl ?_
      refine C.iaddI dX9_copies_133 ?_
      refine C.mald hL dX9_copies_134 (by decide) rfl (by decide) (by omega) ?_
      refine C.icmp_geI (tgt := 178) dX9_copies_135 (by decide) (by omega) (by rw [et, e27]; omega) (fun hc135 => absurd hc135 (by rw [et, e27] at hc135; omega)) (fun hc135 => ?_)
      refine C.aload_n dX9_copies_138 rfl ?_
      refine C.mget hL gf_X9_33 dX9_copies_139 rfl ?_
      refine C.ic dX9_copies_142 ?_
      refine C.iload_n dX9_copies_143 rfl ?_
      refine C.imulI dX9_copies_144 ?_
      refine C.iload_n dX9_copies_145 rfl ?_
      refine C.iaddI dX9_copies_146 ?_
      refine C.si dX9_copies_147 (by decide) ?_
      refine C.imulI dX9_copies_150 ?_
      refine C.iload dX9_copies_151 rfl ?_
      refine C.iaddI dX9_copies_153 ?_
      refine C.aload_n dX9_copies_154 rfl ?_
      refine C.mget hL gf_X9_33 dX9_copies_155 rfl ?_
      refine C.ic dX9_copies_158 ?_
      refine C.iload_n dX9_copies_159 rfl ?_
      refine C.imulI dX9_copies_160 ?_
      refine C.iload_n dX9_copies_161 rfl ?_
      refine C.iaddI dX9_copies_162 ?_
      refine C.si dX9_copies_163 (by decide) ?_
      refine C.imulI dX9_copies_166 ?_
      refine C.iload dX9_copies_167 rfl ?_
      refine C.iaddI dX9_copies_169 ?_
      refine C.mald hL dX9_copies_170 (by decide) rfl (by decide) (by omega) ?_
      refine C.mast hL (ovs_28 _ _ _) dX9_copies_171 (by decide) rfl (by decide) (by omega) ?_
      rw [e1, e2]
      refine C.iincI dX9_copies_172 rfl (by decide) rfl ?_
      refine C.goto (tgt := 123) dX9_copies_175 (by decide) ?_
      refine ih (k + 1) _ (by omega) (fun a j => ?_)
      by_cases ha : a = 28
      · subst ha
        rw [va_up_self]
        by_cases hj : j = (2 * to + c) * 420 + k
        · subst hj
          rw [va_up_self, if_pos (by omega), hs, if_neg (by omega), if_neg (by omega)]
          congr 1
          omega
        · rw [va_up_ne _ _ hj, hs]
          by_cases hq : (2 * to + c) * 420 ≤ j ∧ j < (2 * to + c) * 420 + k
          · rw [if_pos (by omega), if_pos (by omega)]
          · rw [if_neg (by omega), if_neg (by omega), if_neg (by omega)]
      · rw [va_up_ne _ _ ha, hs]
        simp [ha]
  have outer : ∀ (c : Nat), c < 2 → ∀ (s0 : SA) w, (0 ≤ s0 27 (2 * fr + c) ∧ s0 27 (2 * fr + c) ≤ 420) → (∀ w, X 0 0 L (ov sf (cpR s0 fr to c) g) 178 [some (.ref 20), some (.int (iI fr)), some (.int (iI to)), some (.int (iI c)), w] []) → X 0 0 L (ov sf s0 g) 95 [some (.ref 20), some (.int (iI fr)), some (.int (iI to)), some (.int (iI c)), w] [] := by
    intro c hc s0 w hl hX
    have et : ((2 : Int) * ↑fr + ↑c).toNat = 2 * fr + c := by omega
    have e1 : ((2 : Int) * ↑to + ↑c).toNat = 2 * to + c := by omega
    refine C.iload_n dX9_copies_95 rfl ?_
    refine C.ic dX9_copies_96 ?_
    refine C.icmp_geI (tgt := 184) dX9_copies_97 (by decide) (by omega) (by omega) (fun hc97 => absurd hc97 (by omega)) (fun hc97 => ?_)
    refine C.aload_n dX9_copies_100 rfl ?_
    refine C.mget hL gf_X9_29 dX9_copies_101 rfl ?_
    refine C.ic dX9_copies_104 ?_
    refine C.iload_n dX9_copies_105 rfl ?_
    refine C.imulI dX9_copies_106 ?_
    refine C.iload_n dX9_copies_107 rfl ?_
    refine C.iaddI dX9_copies_108 ?_
    refine C.aload_n dX9_copies_109 rfl ?_
    refine C.mget hL gf_X9_29 dX9_copies_110 rfl ?_
    refine C.ic dX9_copies_113 ?_
    refine C.iload_n dX9_copies_114 rfl ?_
    refine C.imulI dX9_copies_115 ?_
    refine C.iload_n dX9_copies_116 rfl ?_
    refine C.iaddI dX9_copies_117 ?_
    refine C.mald hL dX9_copies_118 (by decide) rfl (by decide) (by omega) ?_
    refine C.mast hL (ovs_27 _ _ _) dX9_copies_119 (by decide) rfl (by decide) (by omega) ?_
    rw [et, e1]
    refine C.ic dX9_copies_120 ?_
    refine C.istore dX9_copies_121 (by decide) rfl ?_
    refine inner c hc s0 hl hX (s0 27 (2 * fr + c)).toNat 0 _ (by omega) (fun a j => ?_)
    rw [if_neg (by omega)]
    by_cases ha : a = 27
    · subst ha
      rw [va_up_self]
      by_cases hj : j = 2 * to + c
      · subst hj; rw [va_up_self, if_pos (by omega)]
      · rw [va_up_ne _ _ hj, if_neg (by omega)]
    · rw [va_up_ne _ _ ha, if_neg (by omega)]
  have fin : ∀ (s0 : SA) w, (0 ≤ s0 27 (2 * fr) ∧ s0 27 (2 * fr) ≤ 420) → (0 ≤ s0 27 (2 * fr + 1) ∧ s0 27 (2 * fr + 1) ≤ 420) → cpR (cpR s0 fr to 0) fr to 1 = cpS sa fr to → X 0 0 L (ov sf s0 g) 95 [some (.ref 20), some (.int (iI fr)), some (.int (iI to)), some (.int (iI (0 : Nat))), w] [] := by
    intro s0 w q0 q1 hq
    refine outer 0 (by decide) s0 w q0 (fun w => ?_)
    refine C.iincI dX9_copies_178 rfl (by decide) rfl ?_
    refine C.goto (tgt := 95) dX9_copies_181 (by decide) ?_
    refine outer 1 (by decide) (cpR s0 fr to 0) w ?_ (fun w => ?_)
    · show 0 ≤ cpR s0 fr to 0 27 (2 * fr + 1) ∧ cpR s0 fr to 0 27 (2 * fr + 1) ≤ 420
      unfold cpR
      rw [if_neg (by omega), if_neg (by omega)]
      exact q1
    rw [hq]
    refine C.iincI dX9_copies_178 rfl (by decide) rfl ?_
    refine C.goto (tgt := 95) dX9_copies_181 (by decide) ?_
    refine C.iload_n dX9_copies_95 rfl ?_
    refine C.ic dX9_copies_96 ?_
    refine C.icmp_geI (tgt := 184) dX9_copies_97 (by decide) (by omega) (by omega) (fun _ => ?_) (fun h => absurd h (by omega))
    refine C.vret rfl dX9_copies_184 (Nat.le_refl _) (Nat.le_refl _) ⟨_, _, ?_, rfl, rfl⟩
    exact ⟨rfl, rfl, rfl⟩
  have l1 : ∀ (n i : Nat) (s : SA), i + n = 3 → (∀ a j, s a j = if a = 22 ∧ 3 * to ≤ j ∧ j < 3 * to + i then sa 22 (3 * fr + (j - 3 * to)) else if a = 21 ∧ j = to then sa 21 fr else sa a j) → X 0 0 L (ov sf s g) 14 [some (.ref 20), some (.int (iI fr)), some (.int (iI to)), some (.int (iI i)), none] [] := by
    intro n
    induction n with
    | zero =>
      intro i s hi hs
      obtain rfl : i = 3 := by omega
      have z26 : s 26 fr = 0 ∨ s 26 fr = 1 := by rw [hs, if_neg (by omega), if_neg (by omega)]; exact hz
      refine C.iload_n dX9_copies_14 rfl ?_
      refine C.ic dX9_copies_15 ?_
      refine C.icmp_geI (tgt := 45) dX9_copies_16 (by decide) (by omega) (by omega) (fun hc16 => ?_) (fun hc16 => absurd hc16 (by omega))
      refine C.aload_n dX9_copies_45 rfl ?_
      refine C.mget hL gf_X9_16 dX9_copies_46 rfl ?_
      refine C.iload_n dX9_copies_49 rfl ?_
      refine C.aload_n dX9_copies_50 rfl ?_
      refine C.mget hL gf_X9_16 dX9_copies_51 rfl ?_
      refine C.iload_n dX9_copies_54 rfl ?_
      refine C.mald hL dX9_copies_55 (by decide) rfl (by decide) (by omega) ?_
      refine C.mast hL (ovs_23 _ _ _) dX9_copies_56 (by decide) rfl (by decide) (by omega) ?_
      refine C.aload_n dX9_copies_57 rfl ?_
      refine C.mget hL gf_X9_19 dX9_copies_58 rfl ?_
      refine C.iload_n dX9_copies_61 rfl ?_
      refine C.aload_n dX9_copies_62 rfl ?_
      refine C.mget hL gf_X9_19 dX9_copies_63 rfl ?_
      refine C.iload_n dX9_copies_66 rfl ?_
      refine C.mald hL dX9_copies_67 (by decide) rfl (by decide) (by omega) ?_
      refine C.mast hL (ovs_24 _ _ _) dX9_copies_68 (by decide) rfl (by decide) (by omega) ?_
      refine C.aload_n dX9_copies_69 rfl ?_
      refine C.mget hL gf_X9_22 dX9_copies_70 rfl ?_
      refine C.iload_n dX9_copies_73 rfl ?_
      refine C.aload_n dX9_copies_74 rfl ?_
      refine C.mget hL gf_X9_22 dX9_copies_75 rfl ?_
      refine C.iload_n dX9_copies_78 rfl ?_
      refine C.mald hL dX9_copies_79 (by decide) rfl (by decide) (by omega) ?_
      refine C.mast hL (ovs_25 _ _ _) dX9_copies_80 (by decide) rfl (by decide) (by omega) ?_
      refine C.aload_n dX9_copies_81 rfl ?_
      refine C.mget hL gf_X9_25 dX9_copies_82 rfl ?_
      refine C.iload_n dX9_copies_85 rfl ?_
      refine C.aload_n dX9_copies_86 rfl ?_
      refine C.mget hL gf_X9_25 dX9_copies_87 rfl ?_
      refine C.iload_n dX9_copies_90 rfl ?_
      refine C.maldz hL dX9_copies_91 (by decide) rfl (by decide) (by omega) ?_
      refine C.mastz hL (ovs_26 _ _ _) dX9_copies_92 (by decide) rfl (by decide) (by omega) z26 ?_
      refine C.ic dX9_copies_93 ?_
      refine C.istore_n dX9_copies_94 (by decide) rfl ?_
      refine fin _ none ?_ ?_ ?_
      · show 0 ≤ s 27 (2 * fr) ∧ s 27 (2 * fr) ≤ 420
        rw [hs, if_neg (by omega), if_neg (by omega)]; exact h0
      · show 0 ≤ s 27 (2 * fr + 1) ∧ s 27 (2 * fr + 1) ≤ 420
        rw [hs, if_neg (by omega), if_neg (by omega)]; exact h1
      · exact cp_fin h0 h1 hs
    | succ n ih =>
      intro i s hi hs
      have e1 : ((3 : Int) * ↑to + ↑i).toNat = 3 * to + i := by omega
      have e2 : ((3 : Int) * ↑fr + ↑i).toNat = 3 * fr + i := by omega
      refine C.iload_n dX9_copies_14 rfl ?_
      refine C.ic dX9_copies_15 ?_
      refine C.icmp_geI (tgt := 45) dX9_copies_16 (by decide) (by omega) (by omega) (fun hc16 => absurd hc16 (by omega)) (fun hc16 => ?_)
      refine C.aload_n dX9_copies_19 rfl ?_
      refine C.mget hL gf_X9_13 dX9_copies_20 rfl ?_
      refine C.ic dX9_copies_23 ?_
      refine C.iload_n dX9_copies_24 rfl ?_
      refine C.imulI dX9_copies_25 ?_
      refine C.iload_n dX9_copies_26 rfl ?_
      refine C.iaddI dX9_copies_27 ?_
      refine C.aload_n dX9_copies_28 rfl ?_
      refine C.mget hL gf_X9_13 dX9_copies_29 rfl ?_
      refine C.ic dX9_copies_32 ?_
      refine C.iload_n dX9_copies_33 rfl ?_
      refine C.imulI dX9_copies_34 ?_
      refine C.iload_n dX9_copies_35 rfl ?_
      refine C.iaddI dX9_copies_36 ?_
      refine C.mald hL dX9_copies_37 (by decide) rfl (by decide) (by omega) ?_
      refine C.mast hL (ovs_22 _ _ _) dX9_copies_38 (by decide) rfl (by decide) (by omega) ?_
      rw [e1, e2]
      refine C.iincI dX9_copies_39 rfl (by decide) rfl ?_
      refine C.goto (tgt := 14) dX9_copies_42 (by decide) ?_
      refine ih (i + 1) _ (by omega) (fun a j => ?_)
      by_cases ha : a = 22
      · subst ha
        rw [va_up_self]
        by_cases hj : j = 3 * to + i
        · subst hj
          rw [va_up_self, if_pos (by omega), hs, if_neg (by omega), if_neg (by omega)]
          congr 1
          omega
        · rw [va_up_ne _ _ hj, hs]
          by_cases hq : 3 * to ≤ j ∧ j < 3 * to + i
          · rw [if_pos (by omega), if_pos (by omega)]
          · rw [if_neg (by omega), if_neg (by omega), if_neg (by omega)]
      · rw [va_up_ne _ _ ha, hs]
        simp [ha]
  refine C.aload_n dX9_copies_0 rfl ?_
  refine C.mget hL gf_X9_9 dX9_copies_1 rfl ?_
  refine C.iload_n dX9_copies_4 rfl ?_
  refine C.aload_n dX9_copies_5 rfl ?_
  refine C.mget hL gf_X9_9 dX9_copies_6 rfl ?_
  refine C.iload_n dX9_copies_9 rfl ?_
  refine C.mald hL dX9_copies_10 (by decide) rfl (by decide) (by omega) ?_
  refine C.mast hL (ovs_21 _ _ _) dX9_copies_11 (by decide) rfl (by decide) (by omega) ?_
  refine C.ic dX9_copies_12 ?_
  refine C.istore_n dX9_copies_13 (by decide) rfl ?_
  refine l1 3 0 _ rfl (fun a j => ?_)
  rw [if_neg (by omega)]
  by_cases ha : a = 21
  · subst ha
    rw [va_up_self]
    by_cases hj : j = to
    · subst hj; rw [if_pos ⟨rfl, rfl⟩]; exact va_up_self _ _ _
    · rw [if_neg (by omega)]; exact va_up_ne _ _ (by omega)
  · rw [va_up_ne _ _ ha, if_neg (by omega)]
