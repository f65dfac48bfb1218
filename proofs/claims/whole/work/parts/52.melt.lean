/-- alike but for the acts -/
def alk (x y : Sen) : Bool := decide (x.1.2 = y.1.2 ∧ x.2.1 = y.2.1 ∧ cdO x.2.2.1 = cdO y.2.2.1 ∧ cdO x.2.2.2 = cdO y.2.2.2)
theorem list_getD_ext {xs ys : List Int} (hl : xs.length = ys.length) (h : ∀ j, j < xs.length → xs.getD j 0 = ys.getD j 0) : xs = ys := by
  apply List.ext_getElem hl
  intro i h1 h2
  have := h i h1
  rw [List.getD_eq_getElem?_getD, List.getD_eq_getElem?_getD, List.getElem?_eq_getElem h1, List.getElem?_eq_getElem h2] at this
  exact this
set_option maxRecDepth 20000 in
set_option maxHeartbeats 2000000 in
theorem m_areAlike {d s t : Nat} {x y : Sen} {sf : SF} {sa : SA} (hs : s < 100) (ht : t < 100) (hx : SenAt sa s x) (hy : SenAt sa t y) (ox : SOk x) (oy : SOk y) : MM yX9_areAlike cX9_areAlike 6 (some .boolean) d [.int (iI s), .int (iI t)] sf sa (fun r sf' sa' => r = some (.int (iI (b2i (alk x y)))) ∧ sf' = sf ∧ sa' = sa) := by
  obtain ⟨⟨xa, xw, xm, xp⟩, xd, w, u⟩ := x
  obtain ⟨⟨ya, yw, ym, yp⟩, yd, w', u'⟩ := y
  obtain ⟨⟨_, _, b3, b4, b5⟩, hd1, hw, hu⟩ := hx
  obtain ⟨⟨_, _, c3, c4, c5⟩, hd2, hw', hu'⟩ := hy
  obtain ⟨⟨_, k5, k6, k7, _⟩, k9⟩ := ox
  obtain ⟨⟨_, l5, l6, l7, _⟩, l9⟩ := oy
  simp only [] at b3 b4 b5 hd1 hw hu c3 c4 c5 hd2 hw' hu' k5 k6 k7 k9 l5 l6 l7 l9
  generalize hA : alk ((xa, xw, xm, xp), xd, w, u) ((ya, yw, ym, yp), yd, w', u') = A
  have hAt : xw = yw → xm = ym → xd = yd → xp = yp → cdO w = cdO w' → cdO u = cdO u' → A = true := fun h1 h2 h3 h4 h5 h6 => by
    rw [← hA]
    unfold alk
    rw [decide_eq_true_eq, h1, h2, h3, h4]
    exact ⟨rfl, rfl, h5, h6⟩
  have hAf : ¬ (xw = yw ∧ xm = ym ∧ xd = yd ∧ xp = yp ∧ cdO w = cdO w' ∧ cdO u = cdO u') → A = false := fun h => by
    rw [← hA]
    unfold alk
    rw [decide_eq_false_iff_not]
    intro q
    obtain ⟨q1, q2, q3, q4⟩ := q
    simp only [Prod.mk.injEq] at q1
    exact h ⟨q1.1, q1.2.1, q2, q1.2.2, q3, q4⟩
  clear hA
  refine MM.of2 (by decide +kernel) rfl (Nat.le_of_ble_eq_true rfl) (fun L g hL X C => ?_)
  have ret0 : A = false → ∀ v4 v5, X 0 0 L (ov sf sa g) 190 [some (.ref 20), some (.int (iI s)), some (.int (iI t)), some (.int (iI 0)), v4, v5] [] := by
    intro hf v4 v5
    refine C.iload_n dX9_areAlike_190 rfl ?_
    refine C.retI rfl (by first | rfl | (exact (iI_bool (by first | exact Or.inl rfl | exact Or.inr rfl | assumption)).1)) dX9_areAlike_191 (Nat.le_refl _) (Nat.le_refl _) ⟨_, _, ?_, rfl, rfl⟩
    rw [hf]
    exact ⟨rfl, rfl, rfl⟩
  have end0 : A = false → ∀ c : Nat, c < 2 → ∀ v5, X 0 0 L (ov sf sa g) 184 [some (.ref 20), some (.int (iI s)), some (.int (iI t)), some (.int (iI 0)), some (.int (iI c)), v5] [] := by
    intro hf c hc v5
    refine C.iincI dX9_areAlike_184 rfl (by decide) rfl ?_
    refine C.goto (tgt := 69) dX9_areAlike_187 (by decide) ?_
    refine C.iload dX9_areAlike_69 rfl ?_
    refine C.ic dX9_areAlike_71 ?_
    refine C.icmp_geI (tgt := 190) dX9_areAlike_72 (by decide) (by omega) (by omega) (fun hc72 => ?_) (fun hc72 => ?_)
    · exact ret0 hf _ _
    · refine C.iload_n dX9_areAlike_75 rfl ?_
      refine C.if_eqI (tgt := 190) dX9_areAlike_76 (by decide) (by decide) (fun hc76 => ?_) (fun hc76 => absurd hc76 (by decide))
      exact ret0 hf _ _
  have z0 : A = false → ∀ (c k : Nat) (o : Option TT), c < 2 → k ≤ 400 → RowAt sa (2 * s + c) o → X 0 0 L (ov sf sa g) 113 [some (.ref 20), some (.int (iI s)), some (.int (iI t)), some (.int (iI 0)), some (.int (iI c)), some (.int (iI k))] [] := by
    intro hf c k o hc hk hr
    have hlen := hr.len
    refine C.iload dX9_areAlike_113 rfl ?_
    refine C.aload_n dX9_areAlike_115 rfl ?_
    refine C.mget hL gf_X9_29 dX9_areAlike_116 rfl ?_
    refine C.ic dX9_areAlike_119 ?_
    refine C.iload_n dX9_areAlike_120 rfl ?_
    refine C.imulI dX9_areAlike_121 ?_
    refine C.iload dX9_areAlike_122 rfl ?_
    refine C.iaddI dX9_areAlike_124 ?_
    refine C.maldk hL (k := 2 * s + c) dX9_areAlike_125 (by decide) rfl (by decide) (by omega) (by omega) ?_
    refine C.icmp_geI (tgt := 184) dX9_areAlike_126 (by decide) (by omega) (by omega) (fun hc126 => ?_) (fun hc126 => ?_)
    · exact end0 hf c hc _
    · refine C.iload_n dX9_areAlike_129 rfl ?_
      refine C.if_eqI (tgt := 184) dX9_areAlike_130 (by decide) (by decide) (fun hc130 => ?_) (fun hc130 => absurd hc130 (by decide))
      exact end0 hf c hc _
  have inner : ∀ (c : Nat) (o o' : Option TT), c < 2 → RowAt sa (2 * s + c) o → RowAt sa (2 * t + c) o' → (cdO o).length = (cdO o').length → (cdO o ≠ cdO o' → A = false) → (cdO o = cdO o' → ∀ v, X 0 0 L (ov sf sa g) 184 [some (.ref 20), some (.int (iI s)), some (.int (iI t)), some (.int (iI 1)), some (.int (iI c)), v] []) → ∀ (m k : Nat), k + m = (cdO o).length → (∀ j, j < k → (cdO o).getD j 0 = (cdO o').getD j 0) → X 0 0 L (ov sf sa g) 113 [some (.ref 20), some (.int (iI s)), some (.int (iI t)), some (.int (iI 1)), some (.int (iI c)), some (.int (iI k))] [] := by
    intro c o o' hc hr hr' hll hF hT m
    obtain ⟨q1, q2, q3, _⟩ := hr.row
    obtain ⟨p1, p2, p3, _⟩ := hr'.row
    have q5 := hr.vrng
    have p5 := hr'.vrng
    induction m with
    | zero =>
      intro k hk hj
      have := hT (list_getD_ext hll (fun j hjl => hj j (by omega)))
      refine C.iload dX9_areAlike_113 rfl ?_
      refine C.aload_n dX9_areAlike_115 rfl ?_
      refine C.mget hL gf_X9_29 dX9_areAlike_116 rfl ?_
      refine C.ic dX9_areAlike_119 ?_
      refine C.iload_n dX9_areAlike_120 rfl ?_
      refine C.imulI dX9_areAlike_121 ?_
      refine C.iload dX9_areAlike_122 rfl ?_
      refine C.iaddI dX9_areAlike_124 ?_
      refine C.maldk hL (k := 2 * s + c) dX9_areAlike_125 (by decide) rfl (by decide) (by omega) (by omega) ?_
      refine C.topI (b := ((cdO o).length : Int)) q1 ?_
      refine C.icmp_geI (tgt := 184) dX9_areAlike_126 (by decide) (by omega) (by omega) (fun hc126 => ?_) (fun hc126 => absurd hc126 (by omega))
      exact this _
    | succ m ih =>
      intro k hk hj
      have hkl : k < (cdO o).length := by omega
      have e1 : sa 28 ((2 * s + c) * 420 + k) = (cdO o).getD k 0 := q2 k hkl
      have e2 : sa 28 ((2 * t + c) * 420 + k) = (cdO o').getD k 0 := p2 k (by omega)
      have r1 := q5 k hkl
      have r2 := p5 k (by omega)
      by_cases heq : (cdO o).getD k 0 = (cdO o').getD k 0
      · have ih' := ih (k + 1) (by omega) (fun j hjk => by
          by_cases hjk2 : j = k
          · subst hjk2; exact heq
          · exact hj j (by omega))
        refine C.iload dX9_areAlike_113 rfl ?_
        refine C.aload_n dX9_areAlike_115 rfl ?_
        refine C.mget hL gf_X9_29 dX9_areAlike_116 rfl ?_
        refine C.ic dX9_areAlike_119 ?_
        refine C.iload_n dX9_areAlike_120 rfl ?_
        refine C.imulI dX9_areAlike_121 ?_
        refine C.iload dX9_areAlike_122 rfl ?_
        refine C.iaddI dX9_areAlike_124 ?_
        refine C.maldk hL (k := 2 * s + c) dX9_areAlike_125 (by decide) rfl (by decide) (by omega) (by omega) ?_
        refine C.topI (b := ((cdO o).length : Int)) q1 ?_
        refine C.icmp_geI (tgt := 184) dX9_areAlike_126 (by decide) (by omega) (by omega) (fun hc126 => absurd hc126 (by omega)) (fun hc126 => ?_)
        refine C.iload_n dX9_areAlike_129 rfl ?_
        refine C.if_eqI (tgt := 184) dX9_areAlike_130 (by decide) (by decide) (fun hc130 => absurd hc130 (by decide)) (fun hc130 => ?_)
        refine C.aload_n dX9_areAlike_133 rfl ?_
        refine C.mget hL gf_X9_33 dX9_areAlike_134 rfl ?_
        refine C.ic dX9_areAlike_137 ?_
        refine C.iload_n dX9_areAlike_138 rfl ?_
        refine C.imulI dX9_areAlike_139 ?_
        refine C.iload dX9_areAlike_140 rfl ?_
        refine C.iaddI dX9_areAlike_142 ?_
        refine C.si dX9_areAlike_143 (by decide) ?_
        refine C.imulI dX9_areAlike_146 ?_
        refine C.iload dX9_areAlike_147 rfl ?_
        refine C.iaddI dX9_areAlike_149 ?_
        refine C.maldk hL (k := (2 * s + c) * 420 + k) dX9_areAlike_150 (by decide) rfl (by decide) (by omega) (by omega) ?_
        refine C.topI (b := (cdO o).getD k 0) e1 ?_
        refine C.aload_n dX9_areAlike_151 rfl ?_
        refine C.mget hL gf_X9_33 dX9_areAlike_152 rfl ?_
        refine C.ic dX9_areAlike_155 ?_
        refine C.iload_n dX9_areAlike_156 rfl ?_
        refine C.imulI dX9_areAlike_157 ?_
        refine C.iload dX9_areAlike_158 rfl ?_
        refine C.iaddI dX9_areAlike_160 ?_
        refine C.si dX9_areAlike_161 (by decide) ?_
        refine C.imulI dX9_areAlike_164 ?_
        refine C.iload dX9_areAlike_165 rfl ?_
        refine C.iaddI dX9_areAlike_167 ?_
        refine C.maldk hL (k := (2 * t + c) * 420 + k) dX9_areAlike_168 (by decide) rfl (by decide) (by omega) (by omega) ?_
        refine C.topI (b := (cdO o').getD k 0) e2 ?_
        refine C.icmp_neI (tgt := 176) dX9_areAlike_169 (by decide) (by omega) (by omega) (fun hc169 => absurd hc169 (fun h => h heq)) (fun hc169 => ?_)
        refine C.ic dX9_areAlike_172 ?_
        refine C.goto (tgt := 177) dX9_areAlike_173 (by decide) ?_
        refine C.istore_n dX9_areAlike_177 (by decide) rfl ?_
        refine C.iincI dX9_areAlike_178 rfl (by decide) rfl ?_
        refine C.goto (tgt := 113) dX9_areAlike_181 (by decide) ?_
        exact ih'
      · have hf : A = false := hF (fun h => heq (by rw [h]))
        refine C.iload dX9_areAlike_113 rfl ?_
        refine C.aload_n dX9_areAlike_115 rfl ?_
        refine C.mget hL gf_X9_29 dX9_areAlike_116 rfl ?_
        refine C.ic dX9_areAlike_119 ?_
        refine C.iload_n dX9_areAlike_120 rfl ?_
        refine C.imulI dX9_areAlike_121 ?_
        refine C.iload dX9_areAlike_122 rfl ?_
        refine C.iaddI dX9_areAlike_124 ?_
        refine C.maldk hL (k := 2 * s + c) dX9_areAlike_125 (by decide) rfl (by decide) (by omega) (by omega) ?_
        refine C.topI (b := ((cdO o).length : Int)) q1 ?_
        refine C.icmp_geI (tgt := 184) dX9_areAlike_126 (by decide) (by omega) (by omega) (fun hc126 => absurd hc126 (by omega)) (fun hc126 => ?_)
        refine C.iload_n dX9_areAlike_129 rfl ?_
        refine C.if_eqI (tgt := 184) dX9_areAlike_130 (by decide) (by decide) (fun hc130 => absurd hc130 (by decide)) (fun hc130 => ?_)
        refine C.aload_n dX9_areAlike_133 rfl ?_
        refine C.mget hL gf_X9_33 dX9_areAlike_134 rfl ?_
        refine C.ic dX9_areAlike_137 ?_
        refine C.iload_n dX9_areAlike_138 rfl ?_
        refine C.imulI dX9_areAlike_139 ?_
        refine C.iload dX9_areAlike_140 rfl ?_
        refine C.iaddI dX9_areAlike_142 ?_
        refine C.si dX9_areAlike_143 (by decide) ?_
        refine C.imulI dX9_areAlike_146 ?_
        refine C.iload dX9_areAlike_147 rfl ?_
        refine C.iaddI dX9_areAlike_149 ?_
        refine C.maldk hL (k := (2 * s + c) * 420 + k) dX9_areAlike_150 (by decide) rfl (by decide) (by omega) (by omega) ?_
        refine C.topI (b := (cdO o).getD k 0) e1 ?_
        refine C.aload_n dX9_areAlike_151 rfl ?_
        refine C.mget hL gf_X9_33 dX9_areAlike_152 rfl ?_
        refine C.ic dX9_areAlike_155 ?_
        refine C.iload_n dX9_areAlike_156 rfl ?_
        refine C.imulI dX9_areAlike_157 ?_
        refine C.iload dX9_areAlike_158 rfl ?_
        refine C.iaddI dX9_areAlike_160 ?_
        refine C.si dX9_areAlike_161 (by decide) ?_
        refine C.imulI dX9_areAlike_164 ?_
        refine C.iload dX9_areAlike_165 rfl ?_
        refine C.iaddI dX9_areAlike_167 ?_
        refine C.maldk hL (k := (2 * t + c) * 420 + k) dX9_areAlike_168 (by decide) rfl (by decide) (by omega) (by omega) ?_
        refine C.topI (b := (cdO o').getD k 0) e2 ?_
        refine C.icmp_neI (tgt := 176) dX9_areAlike_169 (by decide) (by omega) (by omega) (fun hc169 => ?_) (fun hc169 => absurd hc169 heq)
        refine C.ic dX9_areAlike_176 ?_
        refine C.istore_n dX9_areAlike_177 (by decide) rfl ?_
        refine C.iincI dX9_areAlike_178 rfl (by decide) rfl ?_
        refine C.goto (tgt := 113) dX9_areAlike_181 (by decide) ?_
        exact z0 hf c (k + 1) o hc (by omega) hr
  have outer : ∀ (c : Nat) (o o' : Option TT), c < 2 → RowAt sa (2 * s + c) o → RowAt sa (2 * t + c) o' → (cdO o ≠ cdO o' → A = false) → (cdO o = cdO o' → ∀ v, X 0 0 L (ov sf sa g) 184 [some (.ref 20), some (.int (iI s)), some (.int (iI t)), some (.int (iI 1)), some (.int (iI c)), v] []) → ∀ v, X 0 0 L (ov sf sa g) 69 [some (.ref 20), some (.int (iI s)), some (.int (iI t)), some (.int (iI 1)), some (.int (iI c)), v] [] := by
    intro c o o' hc hr hr' hF hT v
    obtain ⟨q1, q2, q3, _⟩ := hr.row
    obtain ⟨p1, p2, p3, _⟩ := hr'.row
    refine C.iload dX9_areAlike_69 rfl ?_
    refine C.ic dX9_areAlike_71 ?_
    refine C.icmp_geI (tgt := 190) dX9_areAlike_72 (by decide) (by omega) (by omega) (fun hc72 => absurd hc72 (by omega)) (fun hc72 => ?_)
    refine C.iload_n dX9_areAlike_75 rfl ?_
    refine C.if_eqI (tgt := 190) dX9_areAlike_76 (by decide) (by decide) (fun hc76 => absurd hc76 (by decide)) (fun hc76 => ?_)
    refine C.aload_n dX9_areAlike_79 rfl ?_
    refine C.mget hL gf_X9_29 dX9_areAlike_80 rfl ?_
    refine C.ic dX9_areAlike_83 ?_
    refine C.iload_n dX9_areAlike_84 rfl ?_
    refine C.imulI dX9_areAlike_85 ?_
    refine C.iload dX9_areAlike_86 rfl ?_
    refine C.iaddI dX9_areAlike_88 ?_
    refine C.maldk hL (k := 2 * s + c) dX9_areAlike_89 (by decide) rfl (by decide) (by omega) (by omega) ?_
    refine C.topI (b := ((cdO o).length : Int)) q1 ?_
    refine C.aload_n dX9_areAlike_90 rfl ?_
    refine C.mget hL gf_X9_29 dX9_areAlike_91 rfl ?_
    refine C.ic dX9_areAlike_94 ?_
    refine C.iload_n dX9_areAlike_95 rfl ?_
    refine C.imulI dX9_areAlike_96 ?_
    refine C.iload dX9_areAlike_97 rfl ?_
    refine C.iaddI dX9_areAlike_99 ?_
    refine C.maldk hL (k := 2 * t + c) dX9_areAlike_100 (by decide) rfl (by decide) (by omega) (by omega) ?_
    refine C.topI (b := ((cdO o').length : Int)) p1 ?_
    refine C.icmp_neI (tgt := 108) dX9_areAlike_101 (by decide) (by omega) (by omega) (fun hc101 => ?_) (fun hc101 => ?_)
    · refine C.ic dX9_areAlike_108 ?_
      refine C.istore_n dX9_areAlike_109 (by decide) rfl ?_
      refine C.ic dX9_areAlike_110 ?_
      refine C.istore dX9_areAlike_111 (by decide) rfl ?_
      first | exact z0 (hF (fun h => hc101 (by rw [h]))) c 0 o hc (by omega) hr | exact inner c o o' hc hr hr' (by omega) hF hT (cdO o).length 0 (by omega) (fun j hj => absurd hj (by omega))
    · refine C.ic dX9_areAlike_104 ?_
      refine C.goto (tgt := 109) dX9_areAlike_105 (by decide) ?_
      refine C.istore_n dX9_areAlike_109 (by decide) rfl ?_
      refine C.ic dX9_areAlike_110 ?_
      refine C.istore dX9_areAlike_111 (by decide) rfl ?_
      first | exact z0 (hF (fun h => hc101 (by rw [h]))) c 0 o hc (by omega) hr | exact inner c o o' hc hr hr' (by omega) hF hT (cdO o).length 0 (by omega) (fun j hj => absurd hj (by omega))
  have fin : xw = yw → xm = ym → xd = yd → xp = yp → ∀ v4 v5, X 0 0 L (ov sf sa g) 66 [some (.ref 20), some (.int (iI s)), some (.int (iI t)), some (.int (iI 1)), v4, v5] [] := by
    intro h1 h2 h3 h4 v4 v5
    have o1 : cdO w = cdO w' → ∀ v, X 0 0 L (ov sf sa g) 69 [some (.ref 20), some (.int (iI s)), some (.int (iI t)), some (.int (iI 1)), some (.int (iI ((1 : Nat) : Int))), v] [] := fun h5 => outer 1 u u' (by omega) hu hu' (fun h => hAf (fun q => h q.2.2.2.2.2)) (fun h6 v => by
      refine C.iincI dX9_areAlike_184 rfl (by decide) rfl ?_
      refine C.goto (tgt := 69) dX9_areAlike_187 (by decide) ?_
      refine C.iload dX9_areAlike_69 rfl ?_
      refine C.ic dX9_areAlike_71 ?_
      refine C.icmp_geI (tgt := 190) dX9_areAlike_72 (by decide) (by omega) (by omega) (fun hc72 => ?_) (fun hc72 => absurd hc72 (by omega))
      refine C.iload_n dX9_areAlike_190 rfl ?_
      refine C.retI rfl (by first | rfl | (exact (iI_bool (by first | exact Or.inl rfl | exact Or.inr rfl | assumption)).1)) dX9_areAlike_191 (Nat.le_refl _) (Nat.le_refl _) ⟨_, _, ?_, rfl, rfl⟩
      rw [hAt h1 h2 h3 h4 h5 h6]
      exact ⟨rfl, rfl, rfl⟩
      )
    have o0 := outer 0 w w' (by omega) hw hw' (fun h => hAf (fun q => h q.2.2.2.2.1)) (fun h5 v => by
      refine C.iincI dX9_areAlike_184 rfl (by decide) rfl ?_
      refine C.goto (tgt := 69) dX9_areAlike_187 (by decide) ?_
      exact o1 h5 _
      )
    refine C.ic dX9_areAlike_66 ?_
    refine C.istore dX9_areAlike_67 (by decide) rfl ?_
    exact o0 _
  have fail : A = false → ∀ v4 v5, X 0 0 L (ov sf sa g) 66 [some (.ref 20), some (.int (iI s)), some (.int (iI t)), some (.int (iI 0)), v4, v5] [] := by
    intro hf v4 v5
    refine C.ic dX9_areAlike_66 ?_
    refine C.istore dX9_areAlike_67 (by decide) rfl ?_
    refine C.iload dX9_areAlike_69 rfl ?_
    refine C.ic dX9_areAlike_71 ?_
    refine C.icmp_geI (tgt := 190) dX9_areAlike_72 (by decide) (by omega) (by omega) (fun hc72 => absurd hc72 (by omega)) (fun hc72 => ?_)
    refine C.iload_n dX9_areAlike_75 rfl ?_
    refine C.if_eqI (tgt := 190) dX9_areAlike_76 (by decide) (by decide) (fun hc76 => ?_) (fun hc76 => absurd hc76 (by decide))
    exact ret0 hf _ _
  refine C.aload_n dX9_areAlike_0 rfl ?_
  refine C.mget hL gf_X9_16 dX9_areAlike_1 rfl ?_
  refine C.iload_n dX9_areAlike_4 rfl ?_
  refine C.maldk hL dX9_areAlike_5 (by decide) rfl (by decide) rfl (by omega) ?_
  refine C.topI (b := xw) b3 ?_
  refine C.aload_n dX9_areAlike_6 rfl ?_
  refine C.mget hL gf_X9_16 dX9_areAlike_7 rfl ?_
  refine C.iload_n dX9_areAlike_10 rfl ?_
  refine C.maldk hL dX9_areAlike_11 (by decide) rfl (by decide) rfl (by omega) ?_
  refine C.topI (b := yw) c3 ?_
  refine C.icmp_neI (tgt := 64) dX9_areAlike_12 (by decide) (by omega) (by omega) (fun hc12 => ?_) (fun hc12 => ?_)
  · refine C.ic dX9_areAlike_64 ?_
    refine C.istore_n dX9_areAlike_65 (by decide) rfl ?_
    first | exact fin (by omega) (by omega) (by omega) (by omega) _ _ | exact fail (hAf (fun q => by omega)) _ _
  · refine C.aload_n dX9_areAlike_15 rfl ?_
    refine C.mget hL gf_X9_19 dX9_areAlike_16 rfl ?_
    refine C.iload_n dX9_areAlike_19 rfl ?_
    refine C.maldk hL dX9_areAlike_20 (by decide) rfl (by decide) rfl (by omega) ?_
    refine C.topI (b := xm) b4 ?_
    refine C.aload_n dX9_areAlike_21 rfl ?_
    refine C.mget hL gf_X9_19 dX9_areAlike_22 rfl ?_
    refine C.iload_n dX9_areAlike_25 rfl ?_
    refine C.maldk hL dX9_areAlike_26 (by decide) rfl (by decide) rfl (by omega) ?_
    refine C.topI (b := ym) c4 ?_
    refine C.icmp_neI (tgt := 64) dX9_areAlike_27 (by decide) (by omega) (by omega) (fun hc27 => ?_) (fun hc27 => ?_)
    · refine C.ic dX9_areAlike_64 ?_
      refine C.istore_n dX9_areAlike_65 (by decide) rfl ?_
      first | exact fin (by omega) (by omega) (by omega) (by omega) _ _ | exact fail (hAf (fun q => by omega)) _ _
    · refine C.aload_n dX9_areAlike_30 rfl ?_
      refine C.mget hL gf_X9_22 dX9_areAlike_31 rfl ?_
      refine C.iload_n dX9_areAlike_34 rfl ?_
      refine C.maldk hL dX9_areAlike_35 (by decide) rfl (by decide) rfl (by omega) ?_
      refine C.topI (b := xd) hd1 ?_
      refine C.aload_n dX9_areAlike_36 rfl ?_
      refine C.mget hL gf_X9_22 dX9_areAlike_37 rfl ?_
      refine C.iload_n dX9_areAlike_40 rfl ?_
      refine C.maldk hL dX9_areAlike_41 (by decide) rfl (by decide) rfl (by omega) ?_
      refine C.topI (b := yd) hd2 ?_
      refine C.icmp_neI (tgt := 64) dX9_areAlike_42 (by decide) (by omega) (by omega) (fun hc42 => ?_) (fun hc42 => ?_)
      · refine C.ic dX9_areAlike_64 ?_
        refine C.istore_n dX9_areAlike_65 (by decide) rfl ?_
        first | exact fin (by omega) (by omega) (by omega) (by omega) _ _ | exact fail (hAf (fun q => by omega)) _ _
      · refine C.aload_n dX9_areAlike_45 rfl ?_
        refine C.mget hL gf_X9_25 dX9_areAlike_46 rfl ?_
        refine C.iload_n dX9_areAlike_49 rfl ?_
        refine C.maldzk hL dX9_areAlike_50 (by decide) rfl (by decide) rfl (by omega) ?_
        refine C.topI (b := xp) b5 ?_
        refine C.aload_n dX9_areAlike_51 rfl ?_
        refine C.mget hL gf_X9_25 dX9_areAlike_52 rfl ?_
        refine C.iload_n dX9_areAlike_55 rfl ?_
        refine C.maldzk hL dX9_areAlike_56 (by decide) rfl (by decide) rfl (by omega) ?_
        refine C.topI (b := yp) c5 ?_
        refine C.icmp_neI (tgt := 64) dX9_areAlike_57 (by decide) (by omega) (by omega) (fun hc57 => ?_) (fun hc57 => ?_)
        · refine C.ic dX9_areAlike_64 ?_
          refine C.istore_n dX9_areAlike_65 (by decide) rfl ?_
          first | exact fin (by omega) (by omega) (by omega) (by omega) _ _ | exact fail (hAf (fun q => by omega)) _ _
        · refine C.ic dX9_areAlike_60 ?_
          refine C.goto (tgt := 65) dX9_areAlike_61 (by decide) ?_
          refine C.istore_n dX9_areAlike_65 (by decide) rfl ?_
          first | exact fin (by omega) (by omega) (by omega) (by omega) _ _ | exact fail (hAf (fun q => by omega)) _ _
