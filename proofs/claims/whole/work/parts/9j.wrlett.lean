section WRL
variable {d : Nat} {c : SF} {a : SA} {L : List Nat} {g : Nat → AC} {T : List Int}
theorem acT_pos {f : Bool} {xs : List Int} (h : 1 ≤ xs.length) : 0 < (acT f xs).length := by
  cases xs with
  | nil => simp at h
  | cons v vs =>
    show 0 < ((sp f ++ zAct ++ 32 :: dgL v) ++ acR vs).length
    simp only [List.length_append, List.length_cons, List.length_nil]
    omega
theorem moT_pos (m : Int) : 0 < (moT m).length := by
  unfold moT
  rw [List.length_append]
  split <;> (simp only [List.length_cons, List.length_nil]; omega)
theorem pre_le {A B C : List Int} (h : A ++ B = C) : A.length ≤ C.length := by
  rw [← h, List.length_append]
  omega
set_option maxRecDepth 20000 in
set_option maxHeartbeats 2000000 in
theorem w_sentence {D k : Nat} {x : Sen} (hd : 80 ≤ d) (hL : ∀ k, k < 36 → k ∈ L) (hS : SAt L g D k x) (hD : D ≤ 29) (hx : SOk x) (hW : WS c a T) (h112 : c 112 = b2i false) (hl : T.length + (snT (dT T) x).length ≤ 13000) : KA yX7_writeSentence cX7_writeSentence 2 none d [.ref 11, .ref k] L g c a (WP c a (T ++ snT (dT T) x) false) := by
  obtain ⟨⟨hk, hk2⟩, e, w, u, hf, he, hw, hu⟩ := hS
  obtain ⟨⟨⟨a3, ax1, a9, -⟩, ar, am, az, azw⟩, ad⟩ := hx
  have hfk : ∀ c a, kv c a g k = .inr (6, SO x e w u) := fun c a => (kv_ge (by omega)).trans hf
  generalize hTF : T ++ snT (dT T) x = TF
  have hTFl : TF.length ≤ 13000 := by rw [← hTF, List.length_append]; exact hl
  refine KA.of (by decide +kernel) rfl (Nat.le_of_ble_eq_true rfl) (fun X C => ?_)
  have s108 : ∀ (c1 : SF) (a1 : SA) (T1 : List Int), WS c1 a1 T1 → c1 112 = b2i false → 0 < T1.length → GW c c1 a a1 → T1 ++ wiT x.2.1 = TF → X 0 0 L (kv c1 a1 g) 108 [some (.ref 11), some (.ref k)] [] := by
    intro c1 a1 T1 hW1 h1 h0 hG he1
    have hT1 := pre_le he1
    by_cases hdy : x.2.1 < 0
    · have hwi : wiT x.2.1 = [] := by unfold wiT; rw [if_pos hdy]
      rw [hwi, List.append_nil] at he1
      subst he1
      refine C.aload_n dX7_writeSentence_108 rfl ?_
      refine C.getf gf_X7_83 dX7_writeSentence_109 hk (hfk _ _) rfl ?_
      refine C.ic dX7_writeSentence_112 ?_
      refine C.icmp_eqI (tgt := 130) dX7_writeSentence_113 (by decide) (by omega) (by omega) (fun hc113 => ?_) (fun hc113 => absurd hc113 (by omega))
      refine C.vret rfl dX7_writeSentence_130 (Nat.le_refl _) (Nat.le_refl _) ⟨_, _, ?_, rfl, rfl⟩
      exact ⟨rfl, hW1, h1, hG⟩
    · have hwi : wiT x.2.1 = sp true ++ zWithin ++ 32 :: dgL x.2.1 := by unfold wiT; rw [if_neg hdy]
      rw [hwi] at he1
      have M1 := w_w (d := d - 1) (g := g) (w := 14) zWithin rfl (by omega) (by omega) hL hW1 h1 (by omega)
      rw [dT_of h0] at M1
      have l1 : (T1 ++ (sp true ++ zWithin)).length = T1.length + 7 := by rw [List.length_append]; rfl
      refine C.aload_n dX7_writeSentence_108 rfl ?_
      refine C.getf gf_X7_83 dX7_writeSentence_109 hk (hfk _ _) rfl ?_
      refine C.ic dX7_writeSentence_112 ?_
      refine C.icmp_eqI (tgt := 130) dX7_writeSentence_113 (by decide) (by omega) (by omega) (fun hc113 => absurd hc113 (by omega)) (fun hc113 => ?_)
      refine C.aload_n dX7_writeSentence_116 rfl ?_
      refine C.bi dX7_writeSentence_117 (by decide) ?_
      refine C.kcall (M1) cw_X7_writeWord ml_X7_50 im_X7_writeWord sl_X7_writeWord dX7_writeSentence_119 (hL _ (by decide)) rfl rfl rfl (by omega) (Nat.le_refl _) (Nat.le_refl _) (Nat.le_of_ble_eq_true rfl) rfl (fun r119 c119 a119 hR119 => ?_)
      obtain ⟨rfl, q1, q2, q3⟩ := hR119
      skip
      have M2 := w_n (d := d - 1) (g := g) (v := x.2.1) (by omega) (by omega) hL q1 q2 (by omega)
      rw [dT_of (by omega)] at M2
      refine C.aload_n dX7_writeSentence_122 rfl ?_
      refine C.aload_n dX7_writeSentence_123 rfl ?_
      refine C.getf gf_X7_83 dX7_writeSentence_124 hk (hfk _ _) rfl ?_
      refine C.kcall (M2) cw_X7_writeNumber ml_X7_86 im_X7_writeNumber sl_X7_writeNumber dX7_writeSentence_127 (hL _ (by decide)) rfl rfl rfl (by omega) (Nat.le_refl _) (Nat.le_refl _) (Nat.le_of_ble_eq_true rfl) rfl (fun r127 c127 a127 hR127 => ?_)
      obtain ⟨rfl, y1, y2, y3⟩ := hR127
      refine C.vret rfl dX7_writeSentence_130 (Nat.le_refl _) (Nat.le_refl _) ⟨_, _, ?_, rfl, rfl⟩
      refine ⟨rfl, ?_, y2, (hG.tr q3).tr y3⟩
      rw [← he1, show T1 ++ (sp true ++ zWithin ++ 32 :: dgL x.2.1) = T1 ++ (sp true ++ zWithin) ++ (sp true ++ dgL x.2.1) by simp [sp]]
      exact y1
  have s86 : ∀ (c1 : SF) (a1 : SA) (T1 : List Int), WS c1 a1 T1 → c1 112 = b2i false → 0 < T1.length → GW c c1 a a1 → T1 ++ (unT x.2.2.2 ++ wiT x.2.1) = TF → X 0 0 L (kv c1 a1 g) 86 [some (.ref 11), some (.ref k)] [] := by
    intro c1 a1 T1 hW1 h1 h0 hG he1
    have hT1 := pre_le he1
    rcases hu.cases with ⟨rfl, eu⟩ | ⟨q, t, p, rfl, eu, hC, ht, hl4, hqL, hfq⟩
    · rw [eu] at he1
      change T1 ++ ([] ++ wiT x.2.1) = TF at he1
      rw [List.nil_append] at he1
      refine C.aload_n dX7_writeSentence_86 rfl ?_
      refine C.getf gf_X7_80 dX7_writeSentence_87 hk (hfk _ _) rfl ?_
      refine C.ifnullN (tgt := 108) dX7_writeSentence_90 (by decide) ?_
      exact s108 _ _ _ hW1 h1 h0 hG he1
    · rw [eu] at he1
      change T1 ++ (sp true ++ zUnless ++ wt t 0 true ++ wiT x.2.1) = TF at he1
      have M1 := w_w (d := d - 1) (g := g) (w := 13) zUnless rfl (by omega) (by omega) hL hW1 h1 (by omega)
      rw [dT_of h0] at M1
      have l1 : (T1 ++ (sp true ++ zUnless)).length = T1.length + 7 := by rw [List.length_append]; rfl
      have e1 : T1 ++ (sp true ++ zUnless ++ wt t 0 true ++ wiT x.2.1) = T1 ++ (sp true ++ zUnless) ++ wt t 0 true ++ wiT x.2.1 := by simp only [List.append_assoc]
      rw [e1] at he1
      have hT2 := pre_le he1
      rw [List.length_append, l1] at hT2
      refine C.aload_n dX7_writeSentence_86 rfl ?_
      refine C.getf gf_X7_80 dX7_writeSentence_87 hk (hfk _ _) rfl ?_
      refine C.ifnull dX7_writeSentence_90 ?_
      refine C.aload_n dX7_writeSentence_93 rfl ?_
      refine C.bi dX7_writeSentence_94 (by decide) ?_
      refine C.kcall (M1) cw_X7_writeWord ml_X7_50 im_X7_writeWord sl_X7_writeWord dX7_writeSentence_96 (hL _ (by decide)) rfl rfl rfl (by omega) (Nat.le_refl _) (Nat.le_refl _) (Nat.le_of_ble_eq_true rfl) rfl (fun r96 c96 a96 hR96 => ?_)
      obtain ⟨rfl, q1, q2, q3⟩ := hR96
      skip
      have M2 := w_cond hL D (d := d - 1) (dp := 0) (bo := false) (by omega) (by omega) ht hC q1 q2 (by rw [fl1 (by omega), l1]; omega)
      rw [fl1 (by omega)] at M2
      refine C.aload_n dX7_writeSentence_99 rfl ?_
      refine C.aload_n dX7_writeSentence_100 rfl ?_
      refine C.getf gf_X7_80 dX7_writeSentence_101 hk (hfk _ _) rfl ?_
      refine C.ic dX7_writeSentence_104 ?_
      refine C.kcall (M2) cw_X7_writeCond ml_X7_53 im_X7_writeCond sl_X7_writeCond dX7_writeSentence_105 (hL _ (by decide)) rfl rfl rfl (by omega) (Nat.le_refl _) (Nat.le_refl _) (Nat.le_of_ble_eq_true rfl) rfl (fun r105 c105 a105 hR105 => ?_)
      obtain ⟨rfl, y1, y2, y3⟩ := hR105
      exact s108 _ _ _ y1 y2 (by rw [List.length_append]; omega) ((hG.tr q3).tr y3) he1
  have s28 : ∀ (c1 : SF) (a1 : SA) (T1 : List Int), WS c1 a1 T1 → c1 112 = b2i false → GW c c1 a a1 → T1 ++ (bdT (dT T1) x.1 ++ (unT x.2.2.2 ++ wiT x.2.1)) = TF → X 0 0 L (kv c1 a1 g) 28 [some (.ref 11), some (.ref k)] [] := by
    intro c1 a1 T1 hW1 h1 hG he1
    have hT1 := pre_le he1
    by_cases hz : x.1.2.2.2 = 0
    · have hb : bdT (dT T1) x.1 = (sp (dT T1) ++ whT x.1.2.1) ++ (sp true ++ moT x.1.2.2.1) ++ acT true x.1.1 := by unfold bdT; rw [if_pos hz]
      have hw2 := azw hz
      rw [hb] at he1
      have e1 : T1 ++ ((sp (dT T1) ++ whT x.1.2.1) ++ (sp true ++ moT x.1.2.2.1) ++ acT true x.1.1 ++ (unT x.2.2.2 ++ wiT x.2.1)) = T1 ++ (sp (dT T1) ++ whT x.1.2.1) ++ (sp true ++ moT x.1.2.2.1) ++ acT true x.1.1 ++ (unT x.2.2.2 ++ wiT x.2.1) := by simp only [List.append_assoc]
      rw [e1] at he1
      have hwl := whT_len x.1.2.1
      have M1 := w_w (d := d - 1) (g := g) (w := x.1.2.1.toNat) (whT x.1.2.1) (by rw [whT_w (by omega)]; congr 1; omega) (by omega) (by omega) hL hW1 h1 (by omega)
      rw [show ((x.1.2.1.toNat : Nat) : Int) = x.1.2.1 by omega] at M1
      have l1 : 0 < (T1 ++ (sp (dT T1) ++ whT x.1.2.1)).length := by rw [List.length_append, List.length_append]; omega
      have hA := pre_le (A := T1 ++ (sp (dT T1) ++ whT x.1.2.1)) (B := (sp true ++ moT x.1.2.2.1) ++ acT true x.1.1 ++ (unT x.2.2.2 ++ wiT x.2.1)) (C := TF) (by rw [← he1]; simp only [List.append_assoc])
      have hB := pre_le (A := T1 ++ (sp (dT T1) ++ whT x.1.2.1) ++ (sp true ++ moT x.1.2.2.1)) (B := acT true x.1.1 ++ (unT x.2.2.2 ++ wiT x.2.1)) (C := TF) (by rw [← he1]; simp only [List.append_assoc])
      refine C.aload_n dX7_writeSentence_28 rfl ?_
      refine C.getf gf_X7_57 dX7_writeSentence_29 hk (hfk _ _) rfl ?_
      refine C.if_eqI (tgt := 62) dX7_writeSentence_32 (by decide) (by omega) (fun hc32 => ?_) (fun hc32 => absurd hc32 (by omega))
      refine C.aload_n dX7_writeSentence_62 rfl ?_
      refine C.aload_n dX7_writeSentence_63 rfl ?_
      refine C.getf gf_X7_74 dX7_writeSentence_64 hk (hfk _ _) rfl ?_
      refine C.kcall (M1) cw_X7_writeWord ml_X7_50 im_X7_writeWord sl_X7_writeWord dX7_writeSentence_67 (hL _ (by decide)) rfl rfl rfl (by omega) (Nat.le_refl _) (Nat.le_refl _) (Nat.le_of_ble_eq_true rfl) rfl (fun r67 c67 a67 hR67 => ?_)
      obtain ⟨rfl, q1, q2, q3⟩ := hR67
      skip
      have M2 := w_mode (d := d - 1) (g := g) am (by omega) hL q1 q2 (by omega)
      rw [dT_of l1] at M2
      refine C.aload_n dX7_writeSentence_70 rfl ?_
      refine C.aload_n dX7_writeSentence_71 rfl ?_
      refine C.getf gf_X7_68 dX7_writeSentence_72 hk (hfk _ _) rfl ?_
      refine C.kcall (M2) cw_X7_writeMode ml_X7_71 im_X7_writeMode sl_X7_writeMode dX7_writeSentence_75 (hL _ (by decide)) rfl rfl rfl (by omega) (Nat.le_refl _) (Nat.le_refl _) (Nat.le_of_ble_eq_true rfl) rfl (fun r75 c75 a75 hR75 => ?_)
      obtain ⟨rfl, y1, y2, y3⟩ := hR75
      skip
      have M3 := w_acts (d := d - 1) (by omega) hL he ax1 a3 a9 y1 y2 (by omega)
      rw [dT_of (T := T1 ++ (sp (dT T1) ++ whT x.1.2.1) ++ (sp true ++ moT x.1.2.2.1)) (by rw [List.length_append]; omega)] at M3
      refine C.aload_n dX7_writeSentence_78 rfl ?_
      refine C.aload_n dX7_writeSentence_79 rfl ?_
      refine C.getf gf_X7_60 dX7_writeSentence_80 hk (hfk _ _) rfl ?_
      refine C.kcall (M3) cw_X7_writeActs ml_X7_64 im_X7_writeActs sl_X7_writeActs dX7_writeSentence_83 (hL _ (by decide)) rfl rfl rfl (by omega) (Nat.le_refl _) (Nat.le_refl _) (Nat.le_of_ble_eq_true rfl) rfl (fun r83 c83 a83 hR83 => ?_)
      obtain ⟨rfl, x1, x2, x3⟩ := hR83
      exact s86 _ _ _ x1 x2 (by rw [List.length_append, List.length_append]; omega) (((hG.tr q3).tr y3).tr x3) he1
    · have hb : bdT (dT T1) x.1 = acT (dT T1) x.1.1 ++ (sp true ++ moT x.1.2.2.1) ++ (sp true ++ zBe) ++ (sp true ++ zDone) ++ (if x.1.2.1 < 3 then (sp true ++ zBy) ++ (sp true ++ whT x.1.2.1) else []) := by unfold bdT; rw [if_neg hz]
      rw [hb] at he1
      generalize hby : (if x.1.2.1 < 3 then (sp true ++ zBy) ++ (sp true ++ whT x.1.2.1) else []) = BY at *
      have e1 : T1 ++ (acT (dT T1) x.1.1 ++ (sp true ++ moT x.1.2.2.1) ++ (sp true ++ zBe) ++ (sp true ++ zDone) ++ BY ++ (unT x.2.2.2 ++ wiT x.2.1)) = T1 ++ acT (dT T1) x.1.1 ++ (sp true ++ moT x.1.2.2.1) ++ ((sp true ++ zBe) ++ (sp true ++ zDone) ++ BY) ++ (unT x.2.2.2 ++ wiT x.2.1) := by simp only [List.append_assoc]
      rw [e1] at he1
      have hal := acT_pos (f := dT T1) ax1
      have M1 := w_acts (d := d - 1) (by omega) hL he ax1 a3 a9 hW1 h1 (by omega)
      have l1 : 0 < (T1 ++ acT (dT T1) x.1.1).length := by rw [List.length_append]; omega
      have hA := pre_le (A := T1 ++ acT (dT T1) x.1.1) (B := (sp true ++ moT x.1.2.2.1) ++ ((sp true ++ zBe) ++ (sp true ++ zDone) ++ BY) ++ (unT x.2.2.2 ++ wiT x.2.1)) (C := TF) (by rw [← he1]; simp only [List.append_assoc])
      have hB := pre_le (A := T1 ++ acT (dT T1) x.1.1 ++ (sp true ++ moT x.1.2.2.1)) (B := ((sp true ++ zBe) ++ (sp true ++ zDone) ++ BY) ++ (unT x.2.2.2 ++ wiT x.2.1)) (C := TF) (by rw [← he1]; simp only [List.append_assoc])
      refine C.aload_n dX7_writeSentence_28 rfl ?_
      refine C.getf gf_X7_57 dX7_writeSentence_29 hk (hfk _ _) rfl ?_
      refine C.if_eqI (tgt := 62) dX7_writeSentence_32 (by decide) (by omega) (fun hc32 => absurd hc32 (by omega)) (fun hc32 => ?_)
      refine C.aload_n dX7_writeSentence_35 rfl ?_
      refine C.aload_n dX7_writeSentence_36 rfl ?_
      refine C.getf gf_X7_60 dX7_writeSentence_37 hk (hfk _ _) rfl ?_
      refine C.kcall (M1) cw_X7_writeActs ml_X7_64 im_X7_writeActs sl_X7_writeActs dX7_writeSentence_40 (hL _ (by decide)) rfl rfl rfl (by omega) (Nat.le_refl _) (Nat.le_refl _) (Nat.le_of_ble_eq_true rfl) rfl (fun r40 c40 a40 hR40 => ?_)
      obtain ⟨rfl, q1, q2, q3⟩ := hR40
      skip
      have M2 := w_mode (d := d - 1) (g := g) am (by omega) hL q1 q2 (by omega)
      rw [dT_of l1] at M2
      refine C.aload_n dX7_writeSentence_43 rfl ?_
      refine C.aload_n dX7_writeSentence_44 rfl ?_
      refine C.getf gf_X7_68 dX7_writeSentence_45 hk (hfk _ _) rfl ?_
      refine C.kcall (M2) cw_X7_writeMode ml_X7_71 im_X7_writeMode sl_X7_writeMode dX7_writeSentence_48 (hL _ (by decide)) rfl rfl rfl (by omega) (Nat.le_refl _) (Nat.le_refl _) (Nat.le_of_ble_eq_true rfl) rfl (fun r48 c48 a48 hR48 => ?_)
      obtain ⟨rfl, y1, y2, y3⟩ := hR48
      skip
      have l2 : 0 < (T1 ++ acT (dT T1) x.1.1 ++ (sp true ++ moT x.1.2.2.1)).length := by rw [List.length_append]; omega
      have M3 := w_done (d := d - 1) (g := g) ar (by omega) hL y1 y2 l2 (by omega)
      rw [hby] at M3
      refine C.aload_n dX7_writeSentence_51 rfl ?_
      refine C.aload_n dX7_writeSentence_52 rfl ?_
      refine C.getf gf_X7_74 dX7_writeSentence_53 hk (hfk _ _) rfl ?_
      refine C.kcall (M3) cw_X7_writeDone ml_X7_77 im_X7_writeDone sl_X7_writeDone dX7_writeSentence_56 (hL _ (by decide)) rfl rfl rfl (by omega) (Nat.le_refl _) (Nat.le_refl _) (Nat.le_of_ble_eq_true rfl) rfl (fun r56 c56 a56 hR56 => ?_)
      obtain ⟨rfl, x1, x2, x3⟩ := hR56
      refine C.goto (tgt := 86) dX7_writeSentence_59 (by decide) ?_
      exact s86 _ _ _ x1 x2 (by rw [List.length_append]; omega) (((hG.tr q3).tr y3).tr x3) he1
  unfold snT at hTF
  rcases hw.cases with ⟨rfl, ew⟩ | ⟨q, t, p, rfl, ew, hC, ht, hl4, hqL, hfq⟩
  · rw [ew] at hTF
    change T ++ ([] ++ bdT (dT T || false) x.1 ++ unT x.2.2.2 ++ wiT x.2.1) = TF at hTF
    rw [Bool.or_false, List.nil_append, List.append_assoc] at hTF
    refine C.aload_n dX7_writeSentence_0 rfl ?_
    refine C.getf gf_X7_42 dX7_writeSentence_1 hk (hfk _ _) rfl ?_
    refine C.ifnullN (tgt := 28) dX7_writeSentence_4 (by decide) ?_
    exact s28 _ _ _ hW h112 GW.rf hTF
  · rw [ew] at hTF
    change T ++ (sp (dT T) ++ zIf ++ wt t 0 true ++ [44] ++ bdT (dT T || true) x.1 ++ unT x.2.2.2 ++ wiT x.2.1) = TF at hTF
    rw [Bool.or_true] at hTF
    have e1 : T ++ (sp (dT T) ++ zIf ++ wt t 0 true ++ [44] ++ bdT true x.1 ++ unT x.2.2.2 ++ wiT x.2.1) = T ++ (sp (dT T) ++ zIf) ++ wt t 0 true ++ [44] ++ (bdT true x.1 ++ (unT x.2.2.2 ++ wiT x.2.1)) := by simp only [List.append_assoc]
    rw [e1] at hTF
    have M1 := w_w (d := d - 1) (g := g) (w := 12) zIf rfl (by omega) (by omega) hL hW h112 (by omega)
    have l1 : (T ++ (sp (dT T) ++ zIf)).length = T.length + ((sp (dT T)).length + 2) := by rw [List.length_append, List.length_append]; rfl
    have hA := pre_le hTF
    rw [List.length_append, List.length_append, l1] at hA
    change T.length + ((sp (dT T)).length + 2) + (wt t 0 true).length + 1 ≤ TF.length at hA
    refine C.aload_n dX7_writeSentence_0 rfl ?_
    refine C.getf gf_X7_42 dX7_writeSentence_1 hk (hfk _ _) rfl ?_
    refine C.ifnull dX7_writeSentence_4 ?_
    refine C.aload_n dX7_writeSentence_7 rfl ?_
    refine C.bi dX7_writeSentence_8 (by decide) ?_
    refine C.kcall (M1) cw_X7_writeWord ml_X7_50 im_X7_writeWord sl_X7_writeWord dX7_writeSentence_10 (hL _ (by decide)) rfl rfl rfl (by omega) (Nat.le_refl _) (Nat.le_refl _) (Nat.le_of_ble_eq_true rfl) rfl (fun r10 c10 a10 hR10 => ?_)
    obtain ⟨rfl, q1, q2, q3⟩ := hR10
    skip
    have M2 := w_cond hL D (d := d - 1) (dp := 0) (bo := false) (by omega) (by omega) ht hC q1 q2 (by rw [fl1 (by omega), l1]; omega)
    rw [fl1 (by omega)] at M2
    refine C.aload_n dX7_writeSentence_13 rfl ?_
    refine C.aload_n dX7_writeSentence_14 rfl ?_
    refine C.getf gf_X7_42 dX7_writeSentence_15 hk (hfk _ _) rfl ?_
    refine C.ic dX7_writeSentence_18 ?_
    refine C.kcall (M2) cw_X7_writeCond ml_X7_53 im_X7_writeCond sl_X7_writeCond dX7_writeSentence_19 (hL _ (by decide)) rfl rfl rfl (by omega) (Nat.le_refl _) (Nat.le_refl _) (Nat.le_of_ble_eq_true rfl) rfl (fun r19 c19 a19 hR19 => ?_)
    obtain ⟨rfl, y1, y2, y3⟩ := hR19
    skip
    have M3 := w_put (d := d - 1) (g := g) (z := 44) (by decide) hL y1 y2 (by rw [List.length_append, l1]; omega)
    refine C.aload_n dX7_writeSentence_22 rfl ?_
    refine C.bi dX7_writeSentence_23 (by decide) ?_
    refine C.kcall (M3) cw_X7_put ml_X7_30 im_X7_put sl_X7_put dX7_writeSentence_25 (hL _ (by decide)) rfl rfl rfl (by omega) (Nat.le_refl _) (Nat.le_refl _) (Nat.le_of_ble_eq_true rfl) rfl (fun r25 c25 a25 hR25 => ?_)
    obtain ⟨rfl, x1, x2, x3⟩ := hR25
    exact s28 _ _ _ x1 x2 ((q3.tr y3).tr x3) (by rw [dT_app (by decide)]; exact hTF)
theorem kv_GW {c' : SF} {a' : SA} {q : Nat} (h : GW c c' a a') (h11 : q ≠ 11) (h12 : q ≠ 12) : kv c' a' g q = kv c a g q := by
  have e := fun j (x : j ≠ 111 ∧ j ≠ 112) => h.1 j x.1 x.2
  by_cases h17 : 17 ≤ q
  · rw [kv_ge h17, kv_ge h17]
  rcases (show q = 0 ∨ q = 1 ∨ q = 2 ∨ q = 3 ∨ q = 4 ∨ q = 5 ∨ q = 6 ∨ q = 7 ∨ q = 8 ∨ q = 9 ∨ q = 10 ∨ q = 13 ∨ q = 14 ∨ q = 15 ∨ q = 16 by omega) with h0 | h0 | h0 | h0 | h0 | h0 | h0 | h0 | h0 | h0 | h0 | h0 | h0 | h0 | h0 <;> subst h0
  · show (.inr (10, ko0 c') : AC) = .inr (10, ko0 c)
    unfold ko0
    rw [e 5 (by decide), e 6 (by decide), e 7 (by decide)]
  · show (.inr (7, ko1 c') : AC) = .inr (7, ko1 c)
    unfold ko1
    rw [e 11 (by decide)]
  · show (.inl (0, 400, .inl (fun i => iI (a' 2 i))) : AC) = .inl (0, 400, .inl (fun i => iI (a 2 i)))
    rw [h.2 2 (by decide)]
  · show (.inr (5, ko3 c') : AC) = .inr (5, ko3 c)
    unfold ko3
    rw [e 32 (by decide), e 33 (by decide), e 35 (by decide)]
  · rfl
  · show (.inr (2, ko5 c') : AC) = .inr (2, ko5 c)
    unfold ko5
    rw [e 50 (by decide), e 51 (by decide), e 52 (by decide)]
  · show (.inr (8, ko6 c') : AC) = .inr (8, ko6 c)
    unfold ko6
    rw [e 63 (by decide), e 64 (by decide), e 65 (by decide)]
  · show (.inl (1, 400, .inl (fun i => iI (a' 7 i))) : AC) = .inl (1, 400, .inl (fun i => iI (a 7 i)))
    rw [h.2 7 (by decide)]
  · show (.inl (1, 400, .inl (fun i => iI (a' 8 i))) : AC) = .inl (1, 400, .inl (fun i => iI (a 8 i)))
    rw [h.2 8 (by decide)]
  · show (.inl (1, 400, .inl (fun i => iI (a' 9 i))) : AC) = .inl (1, 400, .inl (fun i => iI (a 9 i)))
    rw [h.2 9 (by decide)]
  · show (.inl (1, 3, .inl (fun i => iI (a' 10 i))) : AC) = .inl (1, 3, .inl (fun i => iI (a 10 i)))
    rw [h.2 10 (by decide)]
  · rfl
  · show (.inr (2, ko14 c') : AC) = .inr (2, ko14 c)
    unfold ko14
    rw [e 140 (by decide), e 141 (by decide), e 142 (by decide)]
  · rfl
  · show (.inr (2, ko16 c') : AC) = .inr (2, ko16 c)
    unfold ko16
    rw [e 160 (by decide), e 161 (by decide), e 162 (by decide)]
theorem kv_FW {c' : SF} {a' : SA} {f : Nat → AC} (hK : f = kv c a f) (h : GW c c' a a') : FE [11, 12] L f L (kv c' a' f) := ⟨fun _ h => h, fun q _ hq => by
  rw [kv_GW h (fun h => hq (by simp [h])) (fun h => hq (by simp [h]))]
  exact congrFun hK.symm q⟩
set_option maxHeartbeats 1000000 in
theorem w_letter {f : Nat → AC} {lt e : Nat} {ps : List (Nat × Sen)} (hlt : lt = 13 ∨ lt = 15) (hd : 82 ≤ d) (hL : ∀ k, k < 36 → k ∈ L) (hK : f = kv c a f) (h : LtAt L f lt e ps) (hn : ps.length ≤ 24) (hl : (ltT (ps.map (fun p => p.2))).length ≤ 12000) : KA yX7_writeLetter cX7_writeLetter 3 none d [.ref 11, .ref lt] L f c a (WP c a (ltT (ps.map (fun p => p.2))) false) := by
  generalize hys : ps.map (fun p => p.2) = ys at *
  have hyl : ys.length = ps.length := by rw [← hys, List.length_map]
  refine KA.of (by decide +kernel) rfl (Nat.le_of_ble_eq_true rfl) (fun X C => ?_)
  have keep : ∀ (c1 : SF) (a1 : SA), GW c c1 a a1 → LtAt L (kv c1 a1 f) lt e ps := fun c1 a1 hG => h.keepF hK (kv_FW hK hG) (fun q hq => by simp at hq; omega)
  have loop : ∀ (n i : Nat) (c1 : SF) (a1 : SA), i + n = ps.length → WS c1 a1 (ltT (ys.take i)) → c1 112 = b2i false → GW c c1 a a1 → X 0 0 L (kv c1 a1 f) 12 [some (.ref 11), some (.ref lt), some (.int (iI i))] [] := by
    intro n
    induction n with
    | zero =>
      intro i c1 a1 hi hW1 h1 hG
      have hLt := keep c1 a1 hG
      have M0 := t_size (d := d - 1) (by omega) hLt
      obtain ⟨-, hltL, hltf⟩ := hLt.1
      rw [List.take_of_length_le (by omega)] at hW1
      refine C.iload_n dX7_writeLetter_12 rfl ?_
      refine C.aload_n dX7_writeLetter_13 rfl ?_
      refine C.callV (M0) cw_X1_size ml_X7_25 im_X1_size sl_X1_size dX7_writeLetter_14 hltL hltf rfl rfl (by omega) (Nat.le_refl _) (Nat.le_refl _) (Nat.le_of_ble_eq_true rfl) rfl (fun r14 L14 f14 hR14 => ?_)
      obtain ⟨rfl, hL9, hf9⟩ := hR14
      rw [hL9, hf9]
      clear hL9 hf9
      refine C.icmp_geI (tgt := 45) dX7_writeLetter_17 (by decide) (by omega) (by omega) (fun hc17 => ?_) (fun hc17 => absurd hc17 (by omega))
      refine C.vret rfl dX7_writeLetter_45 (Nat.le_refl _) (Nat.le_refl _) ⟨_, _, ?_, rfl, rfl⟩
      exact ⟨rfl, hW1, h1, hG⟩
    | succ n ih =>
      intro i c1 a1 hi hW1 h1 hG
      have hLt := keep c1 a1 hG
      have M0 := t_size (d := d - 1) (by omega) hLt
      obtain ⟨-, hltL, hltf⟩ := hLt.1
      have hpi : ps[i]? = some (ps[i]'(by omega)) := List.getElem?_eq_getElem _
      generalize ps[i]'(by omega) = p at hpi
      have hyi : ys[i]? = some p.2 := by rw [← hys, List.getElem?_map, hpi]; rfl
      obtain ⟨hS, hx⟩ := (h.2.2 p (List.mem_of_getElem? hpi)).a29
      have htk : ys.take (i + 1) = ys.take i ++ [p.2] := by rw [List.take_add_one, hyi]; rfl
      have hpre : (ltT (ys.take (i + 1))).length ≤ (ltT ys).length := by
        have h2 : ys = ys.take (i + 1) ++ ys.drop (i + 1) := (List.take_append_drop _ _).symm
        have h3 : ltT ys = ltT (ys.take (i + 1)) ++ ltR (ys.drop (i + 1)) := by
          have gen : ∀ (A B : List Sen), A ≠ [] → ltT (A ++ B) = ltT A ++ ltR B := by
            intro A B hA
            cases A with
            | nil => exact absurd rfl hA
            | cons x A =>
              show snT false x ++ ltR (A ++ B) = (snT false x ++ ltR A) ++ ltR B
              unfold ltR
              rw [List.flatMap_append, List.append_assoc]
          have := gen (ys.take (i + 1)) (ys.drop (i + 1)) (by rw [htk]; simp)
          rw [← h2] at this
          exact this
        rw [h3, List.length_append]
        omega
      cases i with
      | zero =>
        have hl1 : ltT (ys.take (0 + 1)) = snT false p.2 := by
          rw [htk]
          show snT false p.2 ++ ltR [] = _
          rw [show ltR [] = [] from rfl, List.append_nil]
        change WS c1 a1 [] at hW1
        have M1 := t_at (d := d - 1) (by omega) hLt hpi
        have M2 := w_sentence (d := d - 1) (g := f) (by omega) hL hS (by omega) hx hW1 h1 (by
          show 0 + (snT false p.2).length ≤ 13000
          rw [← hl1]
          omega)
        change KA yX7_writeSentence cX7_writeSentence 2 none (d - 1) [.ref 11, .ref p.1] L f c1 a1 (WP c1 a1 (snT false p.2) false) at M2
        rw [← hl1] at M2
        refine C.iload_n dX7_writeLetter_12 rfl ?_
        refine C.aload_n dX7_writeLetter_13 rfl ?_
        refine C.callV (M0) cw_X1_size ml_X7_25 im_X1_size sl_X1_size dX7_writeLetter_14 hltL hltf rfl rfl (by omega) (Nat.le_refl _) (Nat.le_refl _) (Nat.le_of_ble_eq_true rfl) rfl (fun r14 L14 f14 hR14 => ?_)
        obtain ⟨rfl, hL9, hf9⟩ := hR14
        rw [hL9, hf9]
        clear hL9 hf9
        refine C.icmp_geI (tgt := 45) dX7_writeLetter_17 (by decide) (by decide) (by omega) (fun hc17 => absurd hc17 (by omega)) (fun hc17 => ?_)
        refine C.iload_n dX7_writeLetter_20 rfl ?_
        refine C.if_leI (tgt := 30) dX7_writeLetter_21 (by decide) (by decide) (fun hc21 => ?_) (fun hc21 => absurd hc21 (by decide))
        refine C.aload_n dX7_writeLetter_30 rfl ?_
        refine C.aload_n dX7_writeLetter_31 rfl ?_
        refine C.iload_n dX7_writeLetter_32 rfl ?_
        refine C.callV (M1) cw_X1_at ml_X7_34 im_X1_at sl_X1_at dX7_writeLetter_33 hltL hltf rfl rfl (by omega) (Nat.le_refl _) (Nat.le_refl _) (Nat.le_of_ble_eq_true rfl) rfl (fun r33 L33 f33 hR33 => ?_)
        obtain ⟨rfl, hL9, hf9⟩ := hR33
        rw [hL9, hf9]
        clear hL9 hf9
        refine C.kcall (M2) cw_X7_writeSentence ml_X7_38 im_X7_writeSentence sl_X7_writeSentence dX7_writeLetter_36 (hL _ (by decide)) rfl rfl rfl (by omega) (Nat.le_refl _) (Nat.le_refl _) (Nat.le_of_ble_eq_true rfl) rfl (fun r36 c36 a36 hR36 => ?_)
        obtain ⟨rfl, q1, q2, q3⟩ := hR36
        refine C.iincI dX7_writeLetter_39 rfl (by decide) rfl ?_
        refine C.goto (tgt := 12) dX7_writeLetter_42 (by decide) ?_
        exact ih (0 + 1) c36 a36 (by omega) q1 q2 (hG.tr q3)
      | succ i =>
        have hne : ys.take (i + 1) ≠ [] := fun h => by
          have := congrArg List.length h
          rw [List.length_take, List.length_nil] at this
          omega
        have hl1 : ltT (ys.take (i + 1 + 1)) = ltT (ys.take (i + 1)) ++ [59] ++ snT true p.2 := by
          rw [htk]
          cases hA : ys.take (i + 1) with
          | nil => exact absurd hA hne
          | cons x A =>
            show snT false x ++ ltR (A ++ [p.2]) = (snT false x ++ ltR A) ++ [59] ++ snT true p.2
            unfold ltR
            rw [List.flatMap_append, List.flatMap_singleton]
            simp only [List.append_assoc]
            rfl
        have hll : (ltT (ys.take (i + 1)) ++ [59] ++ snT true p.2).length ≤ 12000 := by rw [← hl1]; omega
        rw [List.length_append, List.length_append] at hll
        have M1 := w_put (d := d - 1) (g := f) (z := 59) (by decide) hL hW1 h1 (by omega)
        refine C.iload_n dX7_writeLetter_12 rfl ?_
        refine C.aload_n dX7_writeLetter_13 rfl ?_
        refine C.callV (M0) cw_X1_size ml_X7_25 im_X1_size sl_X1_size dX7_writeLetter_14 hltL hltf rfl rfl (by omega) (Nat.le_refl _) (Nat.le_refl _) (Nat.le_of_ble_eq_true rfl) rfl (fun r14 L14 f14 hR14 => ?_)
        obtain ⟨rfl, hL9, hf9⟩ := hR14
        rw [hL9, hf9]
        clear hL9 hf9
        refine C.icmp_geI (tgt := 45) dX7_writeLetter_17 (by decide) (by omega) (by omega) (fun hc17 => absurd hc17 (by omega)) (fun hc17 => ?_)
        refine C.iload_n dX7_writeLetter_20 rfl ?_
        refine C.if_leI (tgt := 30) dX7_writeLetter_21 (by decide) (by omega) (fun hc21 => absurd hc21 (by omega)) (fun hc21 => ?_)
        refine C.aload_n dX7_writeLetter_24 rfl ?_
        refine C.bi dX7_writeLetter_25 (by decide) ?_
        refine C.kcall (M1) cw_X7_put ml_X7_30 im_X7_put sl_X7_put dX7_writeLetter_27 (hL _ (by decide)) rfl rfl rfl (by omega) (Nat.le_refl _) (Nat.le_refl _) (Nat.le_of_ble_eq_true rfl) rfl (fun r27 c27 a27 hR27 => ?_)
        obtain ⟨rfl, q1, q2, q3⟩ := hR27
        skip
        have hLt2 := keep c27 a27 (hG.tr q3)
        obtain ⟨-, hltL2, hltf2⟩ := hLt2.1
        have M2 := t_at (d := d - 1) (by omega) hLt2 hpi
        have hdt : dT (ltT (ys.take (i + 1)) ++ [59]) = true := dT_app (by decide)
        have M3 := w_sentence (d := d - 1) (g := f) (by omega) hL hS (by omega) hx q1 q2 (by rw [hdt, List.length_append]; omega)
        rw [hdt, ← hl1] at M3
        refine C.aload_n dX7_writeLetter_30 rfl ?_
        refine C.aload_n dX7_writeLetter_31 rfl ?_
        refine C.iload_n dX7_writeLetter_32 rfl ?_
        refine C.callV (M2) cw_X1_at ml_X7_34 im_X1_at sl_X1_at dX7_writeLetter_33 hltL2 hltf2 rfl rfl (by omega) (Nat.le_refl _) (Nat.le_refl _) (Nat.le_of_ble_eq_true rfl) rfl (fun r33 L33 f33 hR33 => ?_)
        obtain ⟨rfl, hL9, hf9⟩ := hR33
        rw [hL9, hf9]
        clear hL9 hf9
        refine C.kcall (M3) cw_X7_writeSentence ml_X7_38 im_X7_writeSentence sl_X7_writeSentence dX7_writeLetter_36 (hL _ (by decide)) rfl rfl rfl (by omega) (Nat.le_refl _) (Nat.le_refl _) (Nat.le_of_ble_eq_true rfl) rfl (fun r36 c36 a36 hR36 => ?_)
        obtain ⟨rfl, y1, y2, y3⟩ := hR36
        refine C.iincI dX7_writeLetter_39 rfl (by decide) rfl ?_
        refine C.goto (tgt := 12) dX7_writeLetter_42 (by decide) ?_
        exact ih (i + 1 + 1) c36 a36 (by omega) y1 y2 ((hG.tr q3).tr y3)
  have hW0 : WS (va_up (va_up c 111 0) 112 0) a [] := ⟨rfl, (fun j v h => by cases h), Nat.zero_le _⟩
  refine C.aload_n dX7_writeLetter_0 rfl ?_
  refine C.ic dX7_writeLetter_1 ?_
  refine C.kput_111 hL pf_X7_17 dX7_writeLetter_2 ?_
  refine C.aload_n dX7_writeLetter_5 rfl ?_
  refine C.ic dX7_writeLetter_6 ?_
  refine C.kput_112 hL pf_X7_21 dX7_writeLetter_7 (by first | exact Or.inl rfl | exact Or.inr rfl | assumption) ?_
  refine C.ic dX7_writeLetter_10 ?_
  refine C.istore_n dX7_writeLetter_11 (by decide) rfl ?_
  exact loop ps.length 0 _ _ (by omega) hW0 rfl ⟨fun j x y => (va_up_ne _ _ y).trans (va_up_ne _ _ x), fun _ _ => rfl⟩
end WRL
