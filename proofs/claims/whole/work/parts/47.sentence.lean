def ifT (f : Bool) : Option TT → List Int
  | none => []
  | some t => sp f ++ zIf ++ wt t 0 true ++ [44]
def unT : Option TT → List Int
  | none => []
  | some t => sp true ++ zUnless ++ wt t 0 true
def wiT (v : Int) : List Int := if v < 0 then [] else sp true ++ zWithin ++ 32 :: dgL v
def bdT (f : Bool) (b : BD) : List Int := if b.2.2.2 = 0 then (sp f ++ whT b.2.1) ++ (sp true ++ moT b.2.2.1) ++ acT true b.1
  else acT f b.1 ++ (sp true ++ moT b.2.2.1) ++ (sp true ++ zBe) ++ (sp true ++ zDone) ++ (if b.2.1 < 3 then (sp true ++ zBy) ++ (sp true ++ whT b.2.1) else [])
def isS : Option TT → Bool
  | none => false
  | some _ => true
/-- a sentence's text -/
def snT (f : Bool) (x : Sen) : List Int := ifT f x.2.2.1 ++ bdT (f || isS x.2.2.1) x.1 ++ unT x.2.2.2 ++ wiT x.2.1
def wdO : Option TT → Nat
  | none => 0
  | some t => wd t + 1
def bdW (b : BD) : Nat := (3 * b.1.length - 1) + (if b.2.2.1 = 1 then 2 else 1) + (if b.2.2.2 = 0 then 1 else if b.2.1 < 3 then 4 else 2)
/-- a sentence's words and numbers -/
def snW (x : Sen) : Nat := wdO x.2.2.1 + bdW x.1 + wdO x.2.2.2 + (if x.2.1 < 0 then 0 else 2)
theorem acT_ne {f : Bool} {xs : List Int} (h : 1 ≤ xs.length) : acT f xs ≠ [] := by
  cases xs with
  | nil => simp at h
  | cons y ys => simp [acT]
theorem moT_ne (v : Int) : moT v ≠ [] := by
  unfold moT
  split <;> simp
theorem whT_ne (v : Int) : whT v ≠ [] := by
  unfold whT
  split
  · simp
  · split <;> simp
set_option maxRecDepth 20000 in
set_option maxHeartbeats 4000000 in
theorem m_putSentence {d n s : Nat} {x : Sen} {sf : SF} {sa : SA} (hd : 420 ≤ d) (hs : s < 100) (h29 : sf 29 = n) (hx : SenAt sa s x) (hok : SOk x) (hr : n + (snT (decide (0 < n)) x).length + 4 ≤ 9000) : MM yX9_putSentence cX9_putSentence 2 none d [.int (iI s)] sf sa (fun r sf' sa' => r = none ∧ WT sf sa n (snT (decide (0 < n)) x) (snW x) sf' sa') := by
  obtain ⟨⟨acts, who, mode, pas⟩, days, w, u⟩ := x
  obtain ⟨⟨b1, b2, b3, b4, b5⟩, hdy, hw, hu⟩ := hx
  obtain ⟨⟨⟨k1, k2, k3, k4⟩, k5, k6, k7, k8⟩, k9⟩ := hok
  simp only [] at b1 b2 b3 b4 b5 hdy hw hu k1 k2 k3 k4 k5 k6 k7 k8 k9
  have hrow : ∀ sac T1 sfc wc1, WT sf sa n T1 wc1 sfc sac → ∀ a, a ≠ 34 → sac a = sa a := fun sac T1 sfc wc1 hq a ha => by rw [hq.2, wrS_ne ha]
  generalize hfn : decide (0 < n) = f at hr ⊢
  refine MM.of2 (by decide +kernel) rfl (Nat.le_of_ble_eq_true rfl) (fun L g hL X C => ?_)
  have st4 : ∀ (T : List Int) (wc : Nat) (sfc : SF) (sac : SA), WT sf sa n T wc sfc sac → Ff n T = true → T ++ wiT days = snT f ((acts, who, mode, pas), days, w, u) → wc + (if days < 0 then 0 else 2) = snW ((acts, who, mode, pas), days, w, u) → X 0 0 L (ov sfc sac g) 170 [some (.ref 20), some (.int (iI s))] [] := by
    intro T wc sfc sac hW hF hT hwc
    have ed : sac 25 s = days := by rw [hrow _ _ _ _ hW 25 (by decide)]; exact hdy
    by_cases hneg : days < 0
    · unfold wiT at hT
      rw [if_pos hneg, List.append_nil] at hT
      rw [if_pos hneg, Nat.add_zero] at hwc
      refine C.aload_n dX9_putSentence_170 rfl ?_
      refine C.mget hL gf_X9_22 dX9_putSentence_171 rfl ?_
      refine C.iload_n dX9_putSentence_174 rfl ?_
      refine C.maldk hL dX9_putSentence_175 (by decide) rfl (by decide) rfl (by omega) ?_
      refine C.topI (b := days) ed ?_
      refine C.if_geI (tgt := 180) dX9_putSentence_176 (by decide) (by omega) (fun hc176 => absurd hc176 (by omega)) (fun hc176 => ?_)
      refine C.vret rfl dX9_putSentence_179 (Nat.le_refl _) (Nat.le_refl _) ⟨_, _, ?_, rfl, rfl⟩
      rw [← hT, ← hwc]
      exact ⟨rfl, hW⟩
    · unfold wiT at hT
      rw [if_neg hneg] at hT
      rw [if_neg hneg] at hwc
      rw [← hT] at hr
      have hA := p_word (d := d - 1) (by omega) hW tWithin (by rw [hF]; simp at hr ⊢; omega)
      rw [hF] at hA
      refine C.aload_n dX9_putSentence_170 rfl ?_
      refine C.mget hL gf_X9_22 dX9_putSentence_171 rfl ?_
      refine C.iload_n dX9_putSentence_174 rfl ?_
      refine C.maldk hL dX9_putSentence_175 (by decide) rfl (by decide) rfl (by omega) ?_
      refine C.topI (b := days) ed ?_
      refine C.if_geI (tgt := 180) dX9_putSentence_176 (by decide) (by omega) (fun hc176 => ?_) (fun hc176 => absurd hc176 (by omega))
      refine C.aload_n dX9_putSentence_180 rfl ?_
      refine C.lds dX9_putSentence_181 (j := 32) rfl ?_
      refine C.mcall hL (hA) cw_X9_putWord ml_X9_250 im_X9_putWord sl_X9_putWord dX9_putSentence_183 rfl rfl (by omega) (Nat.le_refl _) (Nat.le_refl _) (Nat.le_of_ble_eq_true rfl) rfl (fun r183 sf183 sa183 hR183 => ?_)
      obtain ⟨rfl, hs1⟩ := hR183
      have ed2 : sa183 25 s = days := by rw [hrow _ _ _ _ hs1 25 (by decide)]; exact hdy
      have hN := p_num (d := d - 1) (v := days) hs1 (by omega) (by simp at hr ⊢; omega)
      refine C.aload_n dX9_putSentence_186 rfl ?_
      refine C.aload_n dX9_putSentence_187 rfl ?_
      refine C.mget hL gf_X9_22 dX9_putSentence_188 rfl ?_
      refine C.iload_n dX9_putSentence_191 rfl ?_
      refine C.maldk hL dX9_putSentence_192 (by decide) rfl (by decide) rfl (by omega) ?_
      refine C.topI (b := days) ed2 ?_
      refine C.mcall hL (hN) cw_X9_putNumber ml_X9_254 im_X9_putNumber sl_X9_putNumber dX9_putSentence_193 rfl rfl (by omega) (Nat.le_refl _) (Nat.le_refl _) (Nat.le_of_ble_eq_true rfl) rfl (fun r193 sf193 sa193 hR193 => ?_)
      obtain ⟨rfl, hs2⟩ := hR193
      refine C.vret rfl dX9_putSentence_196 (Nat.le_refl _) (Nat.le_refl _) ⟨_, _, ?_, rfl, rfl⟩
      rw [← hT, ← hwc]
      refine ⟨rfl, ?_⟩
      rw [← List.append_assoc]
      exact hs2
  have st3 : ∀ (T : List Int) (wc : Nat) (sfc : SF) (sac : SA), WT sf sa n T wc sfc sac → Ff n T = true → T ++ unT u ++ wiT days = snT f ((acts, who, mode, pas), days, w, u) → wc + wdO u + (if days < 0 then 0 else 2) = snW ((acts, who, mode, pas), days, w, u) → X 0 0 L (ov sfc sac g) 132 [some (.ref 20), some (.int (iI s))] [] := by
    intro T wc sfc sac hW hF hT hwc
    cases u with
    | none =>
      have el : sac 27 (2 * s + 1) = 0 := by rw [hrow _ _ _ _ hW 27 (by decide)]; exact hu
      refine C.aload_n dX9_putSentence_132 rfl ?_
      refine C.mget hL gf_X9_29 dX9_putSentence_133 rfl ?_
      refine C.ic dX9_putSentence_136 ?_
      refine C.iload_n dX9_putSentence_137 rfl ?_
      refine C.imulI dX9_putSentence_138 ?_
      refine C.ic dX9_putSentence_139 ?_
      refine C.iaddI dX9_putSentence_140 ?_
      refine C.maldk hL (k := 2 * s + 1) dX9_putSentence_141 (by decide) rfl (by decide) (by omega) (by omega) ?_
      refine C.topI (b := 0) el ?_
      refine C.if_leI (tgt := 170) dX9_putSentence_142 (by decide) (by omega) (fun hc142 => ?_) (fun hc142 => absurd hc142 (by omega))
      exact st4 T wc sfc sac hW hF (by rw [← hT]; simp [unT]) hwc
    | some t =>
      have hcl := cd_len t hu.2.2.1 0
      have el : sac 27 (2 * s + 1) = ((cd t 0).length : Nat) := by rw [hrow _ _ _ _ hW 27 (by decide)]; exact hu.1
      have hcl2 := hu.2.2.2
      rw [← hT] at hr
      have hA := p_word (d := d - 1) (by omega) hW tUnless (by rw [hF]; simp [unT] at hr ⊢; omega)
      rw [hF] at hA
      refine C.aload_n dX9_putSentence_132 rfl ?_
      refine C.mget hL gf_X9_29 dX9_putSentence_133 rfl ?_
      refine C.ic dX9_putSentence_136 ?_
      refine C.iload_n dX9_putSentence_137 rfl ?_
      refine C.imulI dX9_putSentence_138 ?_
      refine C.ic dX9_putSentence_139 ?_
      refine C.iaddI dX9_putSentence_140 ?_
      refine C.maldk hL (k := 2 * s + 1) dX9_putSentence_141 (by decide) rfl (by decide) (by omega) (by omega) ?_
      refine C.topI (b := ((cd t 0).length : Nat)) el ?_
      refine C.if_leI (tgt := 170) dX9_putSentence_142 (by decide) (by omega) (fun hc142 => absurd hc142 (by omega)) (fun hc142 => ?_)
      refine C.aload_n dX9_putSentence_145 rfl ?_
      refine C.lds dX9_putSentence_146 (j := 31) rfl ?_
      refine C.mcall hL (hA) cw_X9_putWord ml_X9_250 im_X9_putWord sl_X9_putWord dX9_putSentence_148 rfl rfl (by omega) (Nat.le_refl _) (Nat.le_refl _) (Nat.le_of_ble_eq_true rfl) rfl (fun r148 sf148 sa148 hR148 => ?_)
      obtain ⟨rfl, hs1⟩ := hR148
      have hF1 := Ff_t (n := n) (T := T) (xs := sp true ++ zUnless) (by simp)
      have hC := p_cond (d := d - 1) (c := 2 * s + 1) (sf := va_up sf148 18 0) (by omega) (by omega) hs1.at0 rfl hu (by rw [hF1]; simp [unT] at hr ⊢; omega)
      rw [hF1] at hC
      refine C.aload_n dX9_putSentence_151 rfl ?_
      refine C.ic dX9_putSentence_152 ?_
      refine C.mput hL pf_X9_65 dX9_putSentence_153 (by decide) rfl ?_
      refine C.aload_n dX9_putSentence_156 rfl ?_
      refine C.ic dX9_putSentence_157 ?_
      refine C.iload_n dX9_putSentence_158 rfl ?_
      refine C.imulI dX9_putSentence_159 ?_
      refine C.ic dX9_putSentence_160 ?_
      refine C.iaddI dX9_putSentence_161 ?_
      refine C.si dX9_putSentence_162 (by decide) ?_
      refine C.imulI dX9_putSentence_165 ?_
      refine C.topI (b := (((2 * s + 1) * 420 : Nat) : Int)) (by omega) ?_
      refine C.ic dX9_putSentence_166 ?_
      refine C.mcall hL (hC) cw_X9_putCond ml_X9_258 im_X9_putCond sl_X9_putCond dX9_putSentence_167 rfl rfl (by omega) (Nat.le_refl _) (Nat.le_refl _) (Nat.le_of_ble_eq_true rfl) rfl (fun r167 sf167 sa167 hR167 => ?_)
      obtain ⟨rfl, hs2⟩ := hR167
      refine st4 _ _ _ _ hs2 (Ff_t ?_) ?_ ?_
      · have := wt_len t hu.2.2.1 0 true
        exact List.ne_nil_of_length_pos this
      · rw [← hT]; simp [unT]
      · rw [← hwc]; simp only [wdO]; omega
  have st2 : ∀ (T : List Int) (wc : Nat) (sfc : SF) (sac : SA), WT sf sa n T wc sfc sac → Ff n T = (f || isS w) → T ++ bdT (f || isS w) (acts, who, mode, pas) ++ unT u ++ wiT days = snT f ((acts, who, mode, pas), days, w, u) → wc + bdW (acts, who, mode, pas) + wdO u + (if days < 0 then 0 else 2) = snW ((acts, who, mode, pas), days, w, u) → X 0 0 L (ov sfc sac g) 52 [some (.ref 20), some (.int (iI s))] [] := by
    intro T wc sfc sac hW hF hT hwc
    generalize hf2 : (f || isS w) = f2 at hF hT
    have ep : sac 26 s = pas := by rw [hrow _ _ _ _ hW 26 (by decide)]; exact b5
    have ew : ∀ sac T1 sfc wc1, WT sf sa n T1 wc1 sfc sac → sac 23 s = who := fun sac T1 sfc wc1 hq => by rw [hrow _ _ _ _ hq 23 (by decide)]; exact b3
    rw [← hT] at hr
    by_cases hp : pas = 0
    · have hbd : bdT f2 (acts, who, mode, pas) = (sp f2 ++ whT who) ++ (sp true ++ moT mode) ++ acT true acts := if_pos hp
      have hbw : bdW (acts, who, mode, pas) = (3 * acts.length - 1) + (if mode = 1 then 2 else 1) + 1 := by unfold bdW; rw [if_pos hp]
      rw [hbd] at hT hr
      rw [hbw] at hwc
      have hwh := whT_ne who
      have hmo := moT_ne mode
      have hA := p_who (d := d - 1) (v := who) (by omega) hW (by omega) (by rw [hF]; simp at hr ⊢; omega)
      rw [hF] at hA
      have e1 := ew _ _ _ _ hW
      refine C.aload_n dX9_putSentence_52 rfl ?_
      refine C.mget hL gf_X9_25 dX9_putSentence_53 rfl ?_
      refine C.iload_n dX9_putSentence_56 rfl ?_
      refine C.maldzk hL dX9_putSentence_57 (by decide) rfl (by decide) rfl (by omega) ?_
      refine C.topI (b := pas) ep ?_
      refine C.if_eqI (tgt := 112) dX9_putSentence_58 (by decide) (by omega) (fun hc58 => ?_) (fun hc58 => absurd hc58 (fun h => h hp))
      refine C.aload_n dX9_putSentence_112 rfl ?_
      refine C.aload_n dX9_putSentence_113 rfl ?_
      refine C.mget hL gf_X9_16 dX9_putSentence_114 rfl ?_
      refine C.iload_n dX9_putSentence_117 rfl ?_
      refine C.maldk hL dX9_putSentence_118 (by decide) rfl (by decide) rfl (by omega) ?_
      refine C.topI (b := who) e1 ?_
      refine C.mcall hL (hA) cw_X9_putWho ml_X9_274 im_X9_putWho sl_X9_putWho dX9_putSentence_119 rfl rfl (by omega) (Nat.le_refl _) (Nat.le_refl _) (Nat.le_of_ble_eq_true rfl) rfl (fun r119 sf119 sa119 hR119 => ?_)
      obtain ⟨rfl, hs1⟩ := hR119
      have hF1 := Ff_t (n := n) (T := T) (xs := sp f2 ++ whT who) (by simp [hwh])
      have hB := p_mode (d := d - 1) (s := s) (v := mode) (by omega) hs hs1 (by omega) b4 (by rw [hF1]; simp at hr ⊢; omega)
      rw [hF1] at hB
      refine C.aload_n dX9_putSentence_122 rfl ?_
      refine C.iload_n dX9_putSentence_123 rfl ?_
      refine C.mcall hL (hB) cw_X9_putMode ml_X9_271 im_X9_putMode sl_X9_putMode dX9_putSentence_124 rfl rfl (by omega) (Nat.le_refl _) (Nat.le_refl _) (Nat.le_of_ble_eq_true rfl) rfl (fun r124 sf124 sa124 hR124 => ?_)
      obtain ⟨rfl, hs2⟩ := hR124
      have hF2 := Ff_t (n := n) (T := T ++ (sp f2 ++ whT who)) (xs := sp true ++ moT mode) (by simp [hmo])
      have hC := p_acts (d := d - 1) (s := s) (xs := acts) (by omega) hs hs2 k1 k2 k3 b1 b2 (by rw [hF2]; simp at hr ⊢; omega)
      rw [hF2] at hC
      refine C.aload_n dX9_putSentence_127 rfl ?_
      refine C.iload_n dX9_putSentence_128 rfl ?_
      refine C.mcall hL (hC) cw_X9_putActs ml_X9_268 im_X9_putActs sl_X9_putActs dX9_putSentence_129 rfl rfl (by omega) (Nat.le_refl _) (Nat.le_refl _) (Nat.le_of_ble_eq_true rfl) rfl (fun r129 sf129 sa129 hR129 => ?_)
      obtain ⟨rfl, hs3⟩ := hR129
      refine st3 _ _ _ _ hs3 (Ff_t (acT_ne k2)) ?_ ?_
      · rw [← hT]; simp
      · rw [← hwc]; split <;> omega
    · have hbd : bdT f2 (acts, who, mode, pas) = acT f2 acts ++ (sp true ++ moT mode) ++ (sp true ++ zBe) ++ (sp true ++ zDone) ++ (if who < 3 then (sp true ++ zBy) ++ (sp true ++ whT who) else []) := if_neg hp
      have hbw : bdW (acts, who, mode, pas) = (3 * acts.length - 1) + (if mode = 1 then 2 else 1) + (if who < 3 then 4 else 2) := by unfold bdW; rw [if_neg hp]
      rw [hbd] at hT hr
      rw [hbw] at hwc
      have hmo := moT_ne mode
      have hA := p_acts (d := d - 1) (s := s) (xs := acts) (by omega) hs hW k1 k2 k3 b1 b2 (by rw [hF]; simp at hr ⊢; omega)
      rw [hF] at hA
      have mid : ∀ (T2 : List Int) (wc2 : Nat) (sfc : SF) (sac : SA), WT sf sa n T2 wc2 sfc sac → Ff n T2 = true → T2 ++ (if who < 3 then (sp true ++ zBy) ++ (sp true ++ whT who) else []) ++ unT u ++ wiT days = snT f ((acts, who, mode, pas), days, w, u) → wc2 + (if who < 3 then 2 else 0) + wdO u + (if days < 0 then 0 else 2) = snW ((acts, who, mode, pas), days, w, u) → X 0 0 L (ov sfc sac g) 83 [some (.ref 20), some (.int (iI s))] [] := by
        intro T2 wc2 sfc sac hW2 hF2 hT2 hwc2
        have e1 := ew _ _ _ _ hW2
        rw [hT, ← hT2] at hr
        by_cases hw3 : who < 3
        · rw [if_pos hw3] at hT2 hr
          rw [if_pos hw3] at hwc2
          have hB := p_word (d := d - 1) (by omega) hW2 tBy (by rw [hF2]; simp at hr ⊢; omega)
          rw [hF2] at hB
          refine C.aload_n dX9_putSentence_83 rfl ?_
          refine C.mget hL gf_X9_16 dX9_putSentence_84 rfl ?_
          refine C.iload_n dX9_putSentence_87 rfl ?_
          refine C.maldk hL dX9_putSentence_88 (by decide) rfl (by decide) rfl (by omega) ?_
          refine C.topI (b := who) e1 ?_
          refine C.ic dX9_putSentence_89 ?_
          refine C.icmp_geI (tgt := 132) dX9_putSentence_90 (by decide) (by omega) (by omega) (fun hc90 => absurd hc90 (by omega)) (fun hc90 => ?_)
          refine C.aload_n dX9_putSentence_93 rfl ?_
          refine C.lds dX9_putSentence_94 (j := 29) rfl ?_
          refine C.mcall hL (hB) cw_X9_putWord ml_X9_250 im_X9_putWord sl_X9_putWord dX9_putSentence_96 rfl rfl (by omega) (Nat.le_refl _) (Nat.le_refl _) (Nat.le_of_ble_eq_true rfl) rfl (fun r96 sf96 sa96 hR96 => ?_)
          obtain ⟨rfl, hs5⟩ := hR96
          have e2 := ew _ _ _ _ hs5
          have hF5 := Ff_t (n := n) (T := T2) (xs := sp true ++ zBy) (by simp)
          have hC := p_who (d := d - 1) (v := who) (by omega) hs5 (by omega) (by rw [hF5]; simp at hr ⊢; omega)
          rw [hF5] at hC
          refine C.aload_n dX9_putSentence_99 rfl ?_
          refine C.aload_n dX9_putSentence_100 rfl ?_
          refine C.mget hL gf_X9_16 dX9_putSentence_101 rfl ?_
          refine C.iload_n dX9_putSentence_104 rfl ?_
          refine C.maldk hL dX9_putSentence_105 (by decide) rfl (by decide) rfl (by omega) ?_
          refine C.topI (b := who) e2 ?_
          refine C.mcall hL (hC) cw_X9_putWho ml_X9_274 im_X9_putWho sl_X9_putWho dX9_putSentence_106 rfl rfl (by omega) (Nat.le_refl _) (Nat.le_refl _) (Nat.le_of_ble_eq_true rfl) rfl (fun r106 sf106 sa106 hR106 => ?_)
          obtain ⟨rfl, hs6⟩ := hR106
          refine C.goto (tgt := 132) dX9_putSentence_109 (by decide) ?_
          refine st3 _ _ _ _ hs6 (Ff_t (by simp [whT_ne])) ?_ ?_
          · rw [← hT2]; simp
          · rw [← hwc2]
        · rw [if_neg hw3] at hT2
          rw [if_neg hw3] at hwc2
          refine C.aload_n dX9_putSentence_83 rfl ?_
          refine C.mget hL gf_X9_16 dX9_putSentence_84 rfl ?_
          refine C.iload_n dX9_putSentence_87 rfl ?_
          refine C.maldk hL dX9_putSentence_88 (by decide) rfl (by decide) rfl (by omega) ?_
          refine C.topI (b := who) e1 ?_
          refine C.ic dX9_putSentence_89 ?_
          refine C.icmp_geI (tgt := 132) dX9_putSentence_90 (by decide) (by omega) (by omega) (fun hc90 => ?_) (fun hc90 => absurd hc90 (by omega))
          refine st3 _ _ _ _ hW2 hF2 ?_ hwc2
          rw [← hT2]; simp
      refine C.aload_n dX9_putSentence_52 rfl ?_
      refine C.mget hL gf_X9_25 dX9_putSentence_53 rfl ?_
      refine C.iload_n dX9_putSentence_56 rfl ?_
      refine C.maldzk hL dX9_putSentence_57 (by decide) rfl (by decide) rfl (by omega) ?_
      refine C.topI (b := pas) ep ?_
      refine C.if_eqI (tgt := 112) dX9_putSentence_58 (by decide) (by omega) (fun hc58 => absurd hc58 hp) (fun hc58 => ?_)
      refine C.aload_n dX9_putSentence_61 rfl ?_
      refine C.iload_n dX9_putSentence_62 rfl ?_
      refine C.mcall hL (hA) cw_X9_putActs ml_X9_268 im_X9_putActs sl_X9_putActs dX9_putSentence_63 rfl rfl (by omega) (Nat.le_refl _) (Nat.le_refl _) (Nat.le_of_ble_eq_true rfl) rfl (fun r63 sf63 sa63 hR63 => ?_)
      obtain ⟨rfl, hs1⟩ := hR63
      have hF1 := Ff_t (n := n) (T := T) (xs := acT f2 acts) (acT_ne k2)
      have hB := p_mode (d := d - 1) (s := s) (v := mode) (by omega) hs hs1 (by omega) b4 (by rw [hF1]; simp at hr ⊢; omega)
      rw [hF1] at hB
      refine C.aload_n dX9_putSentence_66 rfl ?_
      refine C.iload_n dX9_putSentence_67 rfl ?_
      refine C.mcall hL (hB) cw_X9_putMode ml_X9_271 im_X9_putMode sl_X9_putMode dX9_putSentence_68 rfl rfl (by omega) (Nat.le_refl _) (Nat.le_refl _) (Nat.le_of_ble_eq_true rfl) rfl (fun r68 sf68 sa68 hR68 => ?_)
      obtain ⟨rfl, hs2⟩ := hR68
      have hF2 := Ff_t (n := n) (T := T ++ acT f2 acts) (xs := sp true ++ moT mode) (by simp [hmo])
      have hC := p_word (d := d - 1) (by omega) hs2 tBe (by rw [hF2]; simp at hr ⊢; omega)
      rw [hF2] at hC
      refine C.aload_n dX9_putSentence_71 rfl ?_
      refine C.lds dX9_putSentence_72 (j := 27) rfl ?_
      refine C.mcall hL (hC) cw_X9_putWord ml_X9_250 im_X9_putWord sl_X9_putWord dX9_putSentence_74 rfl rfl (by omega) (Nat.le_refl _) (Nat.le_refl _) (Nat.le_of_ble_eq_true rfl) rfl (fun r74 sf74 sa74 hR74 => ?_)
      obtain ⟨rfl, hs3⟩ := hR74
      have hF3 := Ff_t (n := n) (T := T ++ acT f2 acts ++ (sp true ++ moT mode)) (xs := sp true ++ zBe) (by simp)
      have hD := p_word (d := d - 1) (by omega) hs3 tDone (by rw [hF3]; simp at hr ⊢; omega)
      rw [hF3] at hD
      refine C.aload_n dX9_putSentence_77 rfl ?_
      refine C.lds dX9_putSentence_78 (j := 28) rfl ?_
      refine C.mcall hL (hD) cw_X9_putWord ml_X9_250 im_X9_putWord sl_X9_putWord dX9_putSentence_80 rfl rfl (by omega) (Nat.le_refl _) (Nat.le_refl _) (Nat.le_of_ble_eq_true rfl) rfl (fun r80 sf80 sa80 hR80 => ?_)
      obtain ⟨rfl, hs4⟩ := hR80
      refine mid _ _ _ _ hs4 (Ff_t (by simp)) ?_ ?_
      · rw [← hT]; simp only [List.append_assoc]
      · rw [← hwc]; split <;> (split <;> omega)
  have hW0 : WT sf sa n [] 0 (va_up (va_up sf 30 0) 31 0) sa := ⟨⟨sf 18, (Wv.rf rfl h29 rfl rfl : Wv sf sf (sf 18) n (sf 30) (sf 31)).up30.up31⟩, wrS_nil.symm⟩
  cases w with
  | none =>
    have el : sa 27 (2 * s) = 0 := hw
    refine C.aload_n dX9_putSentence_0 rfl ?_
    refine C.ic dX9_putSentence_1 ?_
    refine C.mput hL pf_X9_245 dX9_putSentence_2 (by decide) rfl ?_
    refine C.aload_n dX9_putSentence_5 rfl ?_
    refine C.ic dX9_putSentence_6 ?_
    refine C.mputz hL pf_X9_238 dX9_putSentence_7 (by decide) (Or.inl rfl) rfl ?_
    refine C.aload_n dX9_putSentence_10 rfl ?_
    refine C.mget hL gf_X9_29 dX9_putSentence_11 rfl ?_
    refine C.ic dX9_putSentence_14 ?_
    refine C.iload_n dX9_putSentence_15 rfl ?_
    refine C.imulI dX9_putSentence_16 ?_
    refine C.maldk hL (k := 2 * s) dX9_putSentence_17 (by decide) rfl (by decide) (by omega) (by omega) ?_
    refine C.topI (b := 0) el ?_
    refine C.if_leI (tgt := 52) dX9_putSentence_18 (by decide) (by omega) (fun hc18 => ?_) (fun hc18 => absurd hc18 (by omega))
    refine st2 [] 0 _ _ hW0 ?_ ?_ ?_
    · simp [Ff, hfn, isS]
    · simp [snT, ifT]
    · simp only [snW, wdO]
  | some t =>
    have hcl := cd_len t hw.2.2.1 0
    have el : sa 27 (2 * s) = ((cd t 0).length : Nat) := hw.1
    have hcl2 := hw.2.2.2
    simp only [snT, ifT, List.length_append, List.length_cons, List.length_nil] at hr
    have hA := p_word (d := d - 1) (by omega) hW0 tIf (by simp [Ff, hfn] at hr ⊢; omega)
    rw [show Ff n [] = f from hfn] at hA
    refine C.aload_n dX9_putSentence_0 rfl ?_
    refine C.ic dX9_putSentence_1 ?_
    refine C.mput hL pf_X9_245 dX9_putSentence_2 (by decide) rfl ?_
    refine C.aload_n dX9_putSentence_5 rfl ?_
    refine C.ic dX9_putSentence_6 ?_
    refine C.mputz hL pf_X9_238 dX9_putSentence_7 (by decide) (Or.inl rfl) rfl ?_
    refine C.aload_n dX9_putSentence_10 rfl ?_
    refine C.mget hL gf_X9_29 dX9_putSentence_11 rfl ?_
    refine C.ic dX9_putSentence_14 ?_
    refine C.iload_n dX9_putSentence_15 rfl ?_
    refine C.imulI dX9_putSentence_16 ?_
    refine C.maldk hL (k := 2 * s) dX9_putSentence_17 (by decide) rfl (by decide) (by omega) (by omega) ?_
    refine C.topI (b := ((cd t 0).length : Nat)) el ?_
    refine C.if_leI (tgt := 52) dX9_putSentence_18 (by decide) (by omega) (fun hc18 => absurd hc18 (by omega)) (fun hc18 => ?_)
    refine C.aload_n dX9_putSentence_21 rfl ?_
    refine C.lds dX9_putSentence_22 (j := 30) rfl ?_
    refine C.mcall hL (hA) cw_X9_putWord ml_X9_250 im_X9_putWord sl_X9_putWord dX9_putSentence_24 rfl rfl (by omega) (Nat.le_refl _) (Nat.le_refl _) (Nat.le_of_ble_eq_true rfl) rfl (fun r24 sf24 sa24 hR24 => ?_)
    obtain ⟨rfl, hs1⟩ := hR24
    have hF1 := Ff_t (n := n) (T := []) (xs := sp f ++ zIf) (by simp)
    have hC := p_cond (d := d - 1) (c := 2 * s) (sf := va_up sf24 18 0) (by omega) (by omega) hs1.at0 rfl hw (by rw [hF1]; simp at hr ⊢; omega)
    rw [hF1] at hC
    refine C.aload_n dX9_putSentence_27 rfl ?_
    refine C.ic dX9_putSentence_28 ?_
    refine C.mput hL pf_X9_65 dX9_putSentence_29 (by decide) rfl ?_
    refine C.aload_n dX9_putSentence_32 rfl ?_
    refine C.ic dX9_putSentence_33 ?_
    refine C.iload_n dX9_putSentence_34 rfl ?_
    refine C.imulI dX9_putSentence_35 ?_
    refine C.si dX9_putSentence_36 (by decide) ?_
    refine C.imulI dX9_putSentence_39 ?_
    refine C.topI (b := ((2 * s * 420 : Nat) : Int)) (by omega) ?_
    refine C.ic dX9_putSentence_40 ?_
    refine C.mcall hL (hC) cw_X9_putCond ml_X9_258 im_X9_putCond sl_X9_putCond dX9_putSentence_41 rfl rfl (by omega) (Nat.le_refl _) (Nat.le_refl _) (Nat.le_of_ble_eq_true rfl) rfl (fun r41 sf41 sa41 hR41 => ?_)
    obtain ⟨rfl, hs2⟩ := hR41
    have hD := p_put (d := d - 1) (by omega) hs2 tComma (by simp at hr ⊢; omega)
    refine C.aload_n dX9_putSentence_44 rfl ?_
    refine C.ldsw dX9_putSentence_45 (j := 35) rfl ?_
    refine C.ic dX9_putSentence_48 ?_
    refine C.mcall hL (hD) cw_X9_put ml_X9_241 im_X9_put sl_X9_put dX9_putSentence_49 rfl rfl (by omega) (Nat.le_refl _) (Nat.le_refl _) (Nat.le_of_ble_eq_true rfl) rfl (fun r49 sf49 sa49 hR49 => ?_)
    obtain ⟨rfl, hs3⟩ := hR49
    refine st2 _ _ _ _ hs3 ?_ ?_ ?_
    · rw [Ff_t (by simp)]; simp [isS]
    · simp [snT, ifT]
    · simp only [snW, wdO]; omega
