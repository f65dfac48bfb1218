section RSENT
variable {tb : Nat → Int} {e i p d : Nat} {ts : List (Int × Int × Int)} {c : SF} {a : SA} {L : List Nat} {f : Nat → AC}
set_option maxRecDepth 20000 in
set_option maxHeartbeats 4000000 in
theorem r_sentence {e1 : Nat} {ps : List (Nat × Sen)} (hd : 165 ≤ d) (hK : f = kv c a f) (hL : ∀ k, k < 36 → k ∈ L) (h18 : T18 L f) (hT : TsAt c a ts e i) (hk : Tk tb e ts i p) (hLt : LtAt L f 4 e1 ps) (hl : ps.length < 24) : AM yX2_readSentence cX2_readSentence 5 (some .boolean) d (sEnd (sentP tb e p) - p + 3) (15 * (sEnd (sentP tb e p) - p) + 50) [.ref 3] L f (SnPo tb e ts c a L f e1 ps (sentP tb e p)) := by
  have hpe := hk.2
  have he4 : e ≤ 400 := hT.2.2.2.1.2
  generalize hRES : sentP tb e p = RES
  unfold sentP at hRES
  generalize hmc : sEnd RES - p + 3 = mc
  generalize hms : 15 * (sEnd RES - p) + 50 = ms
  refine AM.of (by decide +kernel) (by simp [Value.category]) (Nat.le_of_ble_eq_true rfl) false (fun h => by cases h) (fun X C => ?_)
  -- a wrong end
  have no : ∀ (pc : Nat), (pc = 36 ∨ pc = 69 ∨ pc = 95 ∨ pc = 131) → ∀ (b : Nat) (v1 v2 v3 v4 : Option Value) (ce sl : Nat) (L1 : List Nat) (f1 : Nat → AC) (c1 : SF) (a1 : SA) (i1 : Nat), RES = .inr b → SM e ts c a L f L1 f1 c1 a1 i1 → tkBeg ts i1 e = (b : Int) → ce ≤ mc → sl ≤ ms → X ce sl L1 f1 pc [some (.ref 3), v1, v2, v3, v4] [] := by
    intro pc hpc b v1 v2 v3 v4 ce sl L1 f1 c1 a1 i1 hb hS k7 k8 k9
    have hP : SnPo tb e ts c a L f e1 ps RES (some (.int (iI 0))) L1 f1 := by
      obtain ⟨k1, k2, k3, k4, k5, k6⟩ := hS
      refine ⟨c1, a1, i1, e1, ps, ⟨k1, k2, k3, k4, hLt.keepE hK k6 (Or.inl rfl), k5, k6.h e3610, Or.inl rfl⟩, ?_⟩
      rw [hb]
      exact ⟨k7, by omega, Or.inl rfl⟩
    rcases hpc with rfl | rfl | rfl | rfl
    · refine C.ic dX2_readSentence_36 ?_
      refine C.retI rfl (by first | rfl | (exact (iI_bool (by first | exact Or.inl rfl | exact Or.inr rfl | assumption)).1)) dX2_readSentence_37 k8 k9 hP
      skip
    · refine C.ic dX2_readSentence_69 ?_
      refine C.retI rfl (by first | rfl | (exact (iI_bool (by first | exact Or.inl rfl | exact Or.inr rfl | assumption)).1)) dX2_readSentence_70 k8 k9 hP
      skip
    · refine C.ic dX2_readSentence_95 ?_
      refine C.retI rfl (by first | rfl | (exact (iI_bool (by first | exact Or.inl rfl | exact Or.inr rfl | assumption)).1)) dX2_readSentence_96 k8 k9 hP
      skip
    · refine C.ic dX2_readSentence_131 ?_
      refine C.retI rfl (by first | rfl | (exact (iI_bool (by first | exact Or.inl rfl | exact Or.inr rfl | assumption)).1)) dX2_readSentence_132 k8 k9 hP
      skip
  -- the sentence is made and added
  have s133 : ∀ (xs : List Int) (dy z : Int) (w u : Option TT) (ow ou : Option Nat) (ce sl : Nat) (L1 : List Nat) (f1 : Nat → AC) (c1 : SF) (a1 : SA) (i1 : Nat), SM e ts c a L f L1 f1 c1 a1 i1 → AcS c1 a1 xs → SOk ((xs, c1 32, c1 33, z), dy, w, u) → OAt L1 f1 27 ow w → OAt L1 f1 27 ou u → (z = 0 ∨ z = 1) → ce + 3 ≤ mc → sl + 50 ≤ ms → (∀ r L' f', (∃ (c' : SF) (a' : SA) (e' k : Nat), (f' = kv c' a' f' ∧ (∀ k, k < 36 → k ∈ L') ∧ T18 L' f' ∧ TsAt c' a' ts e i1 ∧ LtAt L' f' 4 e' (ps ++ [(k, ((xs, c1 32, c1 33, z), dy, w, u))]) ∧ GR c c' a a' ∧ FH e1 L f L' f' ∧ (e' = e1 ∨ (e' ∉ L ∧ 2000 ≤ e'))) ∧ r = some (.int (iI 1))) → SnPo tb e ts c a L f e1 ps RES r L' f') → X ce sl L1 f1 133 [some (.ref 3), some (va_rf ow), some (.int (iI z)), some (va_rf ou), some (.int (iI dy))] [] := by
    intro xs dy z w u ow ou ce sl L1 f1 c1 a1 i1 hS hA hOk hw hu hz hce hsl hfin
    obtain ⟨h3L, h3f⟩ := hS.o3
    obtain ⟨k1, k2, k3, k4, k5, k6⟩ := hS
    have hLt1 := hLt.keepE hK k6 (Or.inl rfl)
    refine C.aload_n dX2_readSentence_133 rfl ?_
    refine C.getf gf_X2_12 dX2_readSentence_134 h3L h3f rfl ?_
    refine C.new nf_X2_25 dX2_readSentence_137 (by omega) (Nat.le_trans (show sl + 7 ≤ sl + 50 by omega) hsl) (fun q hq2 hqL => ?_)
    have hF1 : ∀ y, Fo L1 f1 (L1 ++ [q]) (va_up f1 q y) := fun y => Fo.new hqL
    have hqL2 : q ∈ L1 ++ [q] := List.mem_append_right _ List.mem_cons_self
    have h3L2 : 3 ∈ L1 ++ [q] := List.mem_append_left _ h3L
    have h3f2 : ∀ y, va_up f1 q y 3 = .inr (5, ko3 c1) := fun y => ((hF1 y).2 3 h3L).trans h3f
    have hK2 : ∀ y, va_up f1 q y = kv c1 a1 (va_up f1 q y) := fun y => kv_to k1 (fun j hj => (hF1 y).2 j (k2 j (by omega)))
    have hL2 : ∀ k, k < 36 → k ∈ L1 ++ [q] := fun k hk => List.mem_append_left _ (k2 k hk)
    refine C.dup dX2_readSentence_140 rfl ?_
    refine C.aload_n dX2_readSentence_141 rfl ?_
    refine C.getf gf_X2_31 dX2_readSentence_142 h3L2 (h3f2 _) rfl ?_
    refine C.aload_n dX2_readSentence_145 rfl ?_
    refine C.getf gf_X2_35 dX2_readSentence_146 h3L2 (h3f2 _) rfl ?_
    refine C.iload dX2_readSentence_149 rfl ?_
    refine C.iload_n dX2_readSentence_151 rfl ?_
    refine C.aload_n dX2_readSentence_152 rfl ?_
    skip
    have M1 := b_actsTold (d := d - 1) (by omega) (hK2 (.inr (6, fsS))) hL2 hA
    refine C.callV M1 cw_X2_actsTold ml_X2_79 im_X2_actsTold sl_X2_actsTold dX2_readSentence_153 h3L2 (h3f2 _) rfl rfl (by omega) (by show ce + 1 + 1 ≤ mc; omega) (by show sl + 7 + 3 ≤ ms; omega) (Nat.le_of_ble_eq_true rfl) rfl (fun r L3 f3 hR => ?_)
    obtain ⟨ka, rfl, hRa, hF3⟩ := hR
    have hqL3 := hF3.1 q hqL2
    have hfq3 : f3 q = .inr (6, fsS) := (hF3.2 q hqL2).trans (va_up_self _ _ _)
    refine C.aload_nO dX2_readSentence_156 rfl ?_
    refine C.aload_nO dX2_readSentence_157 rfl ?_
    refine C.callI (s_init (d := d - 1) (w := ow) (u := ou) (by omega) hz hqL3 hfq3) cw_X3_init ml_X2_83 im_X3_init rfl dX2_readSentence_158 rfl (by omega) (by show ce + 1 + 1 + 0 ≤ mc; omega) (by show sl + 7 + 3 + 0 ≤ ms; omega) (Nat.le_of_ble_eq_true rfl) rfl (fun r L4 f4 h4 => ?_)
    obtain ⟨rfl, rfl, rfl⟩ := h4
    have hF4 : Fo L1 f1 L4 (va_up f3 q (.inr (6, SO ((xs, c1 32, c1 33, z), dy, w, u) ka ow ou))) := ((hF1 _).tr hF3).up hqL
    have hkaq : ka ≠ q := fun h => by
      obtain ⟨-, -, gg, hgg, -⟩ := hRa
      rw [h, hfq3] at hgg
      cases hgg
    have hRa4 : RwI L4 (va_up f3 q (.inr (6, SO ((xs, c1 32, c1 33, z), dy, w, u) ka ow ou))) ka xs := by
      obtain ⟨r1, r2, gg, r3, r4⟩ := hRa
      exact ⟨r1, r2, gg, (va_up_ne _ _ hkaq).trans r3, r4⟩
    have hSW : SW L4 (va_up f3 q (.inr (6, SO ((xs, c1 32, c1 33, z), dy, w, u) ka ow ou))) q ((xs, c1 32, c1 33, z), dy, w, u) := ⟨27, ⟨⟨hqL3, hq2⟩, ka, ow, ou, va_up_self _ _ _, hRa4, hw.keep hF4.p, hu.keep hF4.p⟩, hOk, by split <;> omega⟩
    have hLt4 := hLt1.keepO hF4
    have M2 := t_add (d := d - 1) (by omega) hLt4 hl hSW
    obtain ⟨-, h4L, h4f⟩ := hLt4.1
    have hK4 := kv_to k1 (fun j hj => hF4.2 j (k2 j (by omega)))
    have hL4 : ∀ k, k < 36 → k ∈ L4 := fun k hk => hF4.1 k (k2 k hk)
    have h184 : T18 L4 (va_up f3 q (.inr (6, SO ((xs, c1 32, c1 33, z), dy, w, u) ka ow ou))) := ⟨hF4.1 _ k3.1, (hF4.2 _ k3.1).trans k3.2⟩
    refine C.callV M2 cw_X1_add ml_X2_86 im_X1_add sl_X1_add dX2_readSentence_161 h4L h4f rfl rfl (by omega) (by show ce + 1 + 1 + 0 + 1 ≤ mc; omega) (by show sl + 7 + 3 + 0 + 40 ≤ ms; omega) (Nat.le_of_ble_eq_true rfl) rfl (fun r L5 f5 hR => ?_)
    obtain ⟨rfl, e5, hA5, hF5, he5⟩ := hR
    generalize va_up f3 q (.inr (6, SO ((xs, c1 32, c1 33, z), dy, w, u) ka ow ou)) = f4 at *
    refine C.ic dX2_readSentence_164 ?_
    refine C.retI rfl rfl dX2_readSentence_165 (by show ce + 1 + 1 + 0 + 1 ≤ mc; omega) (by show sl + 7 + 3 + 0 + 40 ≤ ms; omega) (hfin _ _ _ ?_)
    obtain ⟨cap5, hls5⟩ := hA5.2.1
    obtain ⟨-, -, ⟨m5, n5, hf5⟩, -⟩ := hls5.obj
    obtain ⟨cap4, hls4⟩ := hLt4.2.1
    obtain ⟨-, -, -, nq, gq, hfe4⟩ := hls4.obj
    have hlow : ∀ j, j < 17 → j ≠ 5 → f5 j = f4 j := fun j hj h5 => hF5.2 j (hL4 j (by omega)) h5 (fun he => by
      rw [← he] at hfe4
      exact absurd hfe4 (kv_noQ hK4 hj))
    have h185 : f5 18 = f4 18 := hF5.2 18 h184.1 (by decide) (fun he => by
      rw [← he, h184.2] at hfe4
      cases hfe4)
    refine ⟨va_up (va_up (va_up c1 50 m5) 51 (e5 : Int)) 52 n5, a1, e5, q, ⟨kv_l5 hK4 hlow hf5, fun k hk => hF5.1 k (hL4 k hk), ⟨hF5.1 _ h184.1, h185.trans h184.2⟩, k4, hA5, ((k5.up (by omega)).up (by omega)).up (by omega), ((k6.h e3610).tr (e2 := e1) hF4.h (Or.inl rfl)).tr (hF5.h (by omega)) (Or.inl rfl), ?_⟩, rfl⟩
    rcases he5 with h | ⟨h1, h2⟩
    · exact Or.inl h
    · exact Or.inr ⟨fun h => h1 (hF4.1 _ (k6.1 _ h)), h2⟩
  -- within
  have s97 : ∀ (xs : List Int) (z : Int) (w u : Option TT) (ow ou : Option Nat) (v4 : Option Value) (ce sl : Nat) (L1 : List Nat) (f1 : Nat → AC) (c1 : SF) (a1 : SA) (i1 p3 : Nat), SM e ts c a L f L1 f1 c1 a1 i1 → Tk tb e ts i1 p3 → AcS c1 a1 xs → BOk (xs, c1 32, c1 33, z) → OAt L1 f1 27 ow w → OAt L1 f1 27 ou u → (z = 0 ∨ z = 1) → ce + p ≤ p3 → sl + 15 * p ≤ 15 * p3 → sbind (wiP tb e p3) (fun dy p4 => .inl (((xs, c1 32, c1 33, z), dy, w, u), p4)) = RES → X ce sl L1 f1 97 [some (.ref 3), some (va_rf ow), some (.int (iI z)), some (va_rf ou), v4] [] := by
    intro xs z w u ow ou v4 ce sl L1 f1 c1 a1 i1 p3 hS hk1 hA hB hw hu hz hce hsl hs
    have hup := wiP_up hs
    obtain ⟨h3L, h3f⟩ := hS.o3
    obtain ⟨h6L, h6f⟩ := hS.o6
    have M1 : AM yX6_take cX6_take 3 (some .boolean) (d - 1) 0 0 [.ref 6, .int (iI 14)] L1 f1 (TkPo tb e ts c1 a1 L1 f1 i1 (psP tb e p3 zWithin) (wend tb e (bl tb e p3))) := r_take (w := 14) (by omega) (hS.rs hk1)
    have fin : ∀ (dy : Int) (p4 i4 : Nat), RES = .inl (((xs, c1 32, c1 33, z), dy, w, u), p4) → Tk tb e ts i4 p4 → ∀ r L' f', (∃ (c' : SF) (a' : SA) (e' k : Nat), (f' = kv c' a' f' ∧ (∀ k, k < 36 → k ∈ L') ∧ T18 L' f' ∧ TsAt c' a' ts e i4 ∧ LtAt L' f' 4 e' (ps ++ [(k, ((xs, c1 32, c1 33, z), dy, w, u))]) ∧ GR c c' a a' ∧ FH e1 L f L' f' ∧ (e' = e1 ∨ (e' ∉ L ∧ 2000 ≤ e'))) ∧ r = some (.int (iI 1))) → SnPo tb e ts c a L f e1 ps RES r L' f' := by
      intro dy p4 i4 hr hk4 r L' f' hq
      obtain ⟨c', a', e', k, hq1, rfl⟩ := hq
      refine ⟨c', a', i4, e', _, hq1, ?_⟩
      rw [hr]
      exact ⟨rfl, hk4, by rw [List.map_append]; rfl⟩
    unfold wiP at hs
    cases hps : psP tb e p3 zWithin with
    | false =>
      rw [hps] at M1 hs
      rw [if_neg (by decide), sb_l] at hs
      have s2 := s133 xs (-1) z w u ow ou ce sl L1 f1 c1 a1 i1 hS hA ⟨hB, Or.inl rfl⟩ hw hu hz (by omega) (by omega) (fin (-1) _ i1 hs.symm hk1.bl)
      refine C.ic dX2_readSentence_97 ?_
      refine C.istore dX2_readSentence_98 (by decide) (by cases ou <;> rfl) ?_
      refine C.aload_n dX2_readSentence_100 rfl ?_
      refine C.getf gf_X2_21 dX2_readSentence_101 h3L h3f rfl ?_
      refine C.bi dX2_readSentence_104 (by decide) ?_
      refine C.callV (M1) cw_X6_take ml_X2_54 im_X6_take sl_X6_take dX2_readSentence_106 h6L h6f rfl rfl (by omega) (by omega) (by omega) (Nat.le_of_ble_eq_true rfl) rfl (fun r106 L106 f106 hR106 => ?_)
      obtain ⟨rfl, rfl, -, hf9⟩ := hR106
      rw [hf9 rfl]
      refine C.if_eqI (tgt := 133) dX2_readSentence_109 (by decide) (by decide) (fun hc109 => ?_) (fun hc109 => absurd hc109 (by decide))
      exact s2
    | true =>
      rw [hps] at M1 hs
      rw [if_pos rfl] at hs
      refine C.ic dX2_readSentence_97 ?_
      refine C.istore dX2_readSentence_98 (by decide) (by cases ou <;> rfl) ?_
      refine C.aload_n dX2_readSentence_100 rfl ?_
      refine C.getf gf_X2_21 dX2_readSentence_101 h3L h3f rfl ?_
      refine C.bi dX2_readSentence_104 (by decide) ?_
      refine C.callV (M1) cw_X6_take ml_X2_54 im_X6_take sl_X6_take dX2_readSentence_106 h6L h6f rfl rfl (by omega) (by omega) (by omega) (Nat.le_of_ble_eq_true rfl) rfl (fun r106 L106 f106 hR106 => ?_)
      obtain ⟨rfl, rfl, hf9, -⟩ := hR106
      obtain ⟨hRS2, hFE2⟩ := hf9 rfl
      refine C.if_eqI (tgt := 133) dX2_readSentence_109 (by decide) (by decide) (fun hc109 => absurd hc109 (by decide)) (fun hc109 => ?_)
      skip
      have hS2 := hS.step hRS2 hFE2
      obtain ⟨h3L2, h3f2⟩ := hS2.o3
      obtain ⟨h6L2, h6f2⟩ := hS2.o6
      have M2 := r_number (d := d - 1) (lo := 1) (hi := 365) (by decide) (by decide) (by omega) hRS2
      have hnr := nmV_rng tb e (bl tb e (wend tb e (bl tb e p3))) 1 365
      by_cases hv : nmV tb e (bl tb e (wend tb e (bl tb e p3))) 1 365 < 0
      · rw [if_pos hv, sb_r] at hs
        refine C.aload_n dX2_readSentence_112 rfl ?_
        refine C.getf gf_X2_21 dX2_readSentence_113 h3L2 h3f2 rfl ?_
        refine C.ic dX2_readSentence_116 ?_
        refine C.si dX2_readSentence_117 (by decide) ?_
        refine C.callV (M2) cw_X6_takeNumber ml_X2_75 im_X6_takeNumber sl_X6_takeNumber dX2_readSentence_120 h6L2 h6f2 rfl rfl (by omega) (by omega) (by omega) (Nat.le_of_ble_eq_true rfl) rfl (fun r120 L120 f120 hR120 => ?_)
        obtain ⟨rfl, rfl, -, hn⟩ := hR120
        rw [hn hv]
        refine C.istore dX2_readSentence_123 (by decide) (by cases ou <;> rfl) ?_
        refine C.iload dX2_readSentence_125 rfl ?_
        refine C.ic dX2_readSentence_127 ?_
        refine C.icmp_neI (tgt := 133) dX2_readSentence_128 (by decide) (by omega) (by omega) (fun hc128 => absurd hc128 (by omega)) (fun hc128 => ?_)
        exact no 131 (Or.inr (Or.inr (Or.inr rfl))) _ _ _ _ _ _ _ _ _ _ _ (i1 + 1) hs.symm hS2 (tk_beg hRS2.2.2.2.2) (by omega) (by omega)
      · obtain ⟨n1, n2, n3⟩ := nmV_pos (show (0 : Int) ≤ 1 by decide) hv
        rw [if_neg hv, sb_l] at hs
        refine C.aload_n dX2_readSentence_112 rfl ?_
        refine C.getf gf_X2_21 dX2_readSentence_113 h3L2 h3f2 rfl ?_
        refine C.ic dX2_readSentence_116 ?_
        refine C.si dX2_readSentence_117 (by decide) ?_
        refine C.callV (M2) cw_X6_takeNumber ml_X2_75 im_X6_takeNumber sl_X6_takeNumber dX2_readSentence_120 h6L2 h6f2 rfl rfl (by omega) (by omega) (by omega) (Nat.le_of_ble_eq_true rfl) rfl (fun r120 L120 f120 hR120 => ?_)
        obtain ⟨rfl, rfl, hn, -⟩ := hR120
        obtain ⟨hRS3, hFE3⟩ := hn hv
        refine C.istore dX2_readSentence_123 (by decide) (by cases ou <;> rfl) ?_
        refine C.iload dX2_readSentence_125 rfl ?_
        refine C.ic dX2_readSentence_127 ?_
        refine C.icmp_neI (tgt := 133) dX2_readSentence_128 (by decide) (by omega) (by omega) (fun hc128 => ?_) (fun hc128 => absurd hc128 (by omega))
        skip
        have hS3 := hS.step hRS3 (hFE2.tr hFE3)
        exact s133 xs _ z w u ow ou ce sl _ _ _ a1 (i1 + 1 + 1) hS3 hA ⟨hB, Or.inr ⟨by
          have : nmV tb e (bl tb e (wend tb e (bl tb e p3))) 1 365 = -1 ∨ 1 ≤ nmV tb e (bl tb e (wend tb e (bl tb e p3))) 1 365 := by
            unfold nmV
            split
            · exact Or.inl rfl
            · right; omega
          show (1 : Int) ≤ nmV tb e (bl tb e (wend tb e (bl tb e p3))) 1 365
          omega, n2⟩⟩ (hw.keep ((hFE2.tr hFE3).p e6)) (hu.keep ((hFE2.tr hFE3).p e6)) hz (by omega) (by omega) (fin _ _ (i1 + 1 + 1) hs.symm hRS3.2.2.2.2)
  -- unless
  have s71 : ∀ (xs : List Int) (z : Int) (w : Option TT) (ow : Option Nat) (v3 v4 : Option Value) (ce sl : Nat) (L1 : List Nat) (f1 : Nat → AC) (c1 : SF) (a1 : SA) (i1 p2 : Nat), SM e ts c a L f L1 f1 c1 a1 i1 → Tk tb e ts i1 p2 → AcS c1 a1 xs → BOk (xs, c1 32, c1 33, z) → OAt L1 f1 27 ow w → (z = 0 ∨ z = 1) → ce + p ≤ p2 → sl + 15 * p ≤ 15 * p2 → sbind (unP tb e p2) (fun u p3 => sbind (wiP tb e p3) (fun dy p4 => .inl (((xs, c1 32, c1 33, z), dy, w, u), p4))) = RES → X ce sl L1 f1 71 [some (.ref 3), some (va_rf ow), some (.int (iI z)), v3, v4] [] := by
    intro xs z w ow v3 v4 ce sl L1 f1 c1 a1 i1 p2 hS hk1 hA hB hw hz hce hsl hs
    have hp2 := hk1.2
    have hup := unP_up (k := fun u dy => ((xs, c1 32, c1 33, z), dy, w, u)) hp2 hs
    have hb2 := bl_ge tb e p2
    have hbe : bl tb e p2 ≤ e := bl_le hp2
    obtain ⟨h3L, h3f⟩ := hS.o3
    obtain ⟨h6L, h6f⟩ := hS.o6
    have M1 : AM yX6_take cX6_take 3 (some .boolean) (d - 1) 0 0 [.ref 6, .int (iI 13)] L1 f1 (TkPo tb e ts c1 a1 L1 f1 i1 (psP tb e p2 zUnless) (wend tb e (bl tb e p2))) := r_take (w := 13) (by omega) (hS.rs hk1)
    unfold unP at hs
    cases hps : psP tb e p2 zUnless with
    | false =>
      rw [hps] at M1 hs
      rw [if_neg (by decide), sb_l] at hs
      have s2 := s97 xs z w none ow none v4 ce sl L1 f1 c1 a1 i1 (bl tb e p2) hS hk1.bl hA hB hw trivial hz (by omega) (by omega) hs
      refine C.null dX2_readSentence_71 ?_
      refine C.astore_nN dX2_readSentence_72 (by decide) rfl ?_
      refine C.aload_n dX2_readSentence_73 rfl ?_
      refine C.getf gf_X2_21 dX2_readSentence_74 h3L h3f rfl ?_
      refine C.bi dX2_readSentence_77 (by decide) ?_
      refine C.callV (M1) cw_X6_take ml_X2_54 im_X6_take sl_X6_take dX2_readSentence_79 h6L h6f rfl rfl (by omega) (by omega) (by omega) (Nat.le_of_ble_eq_true rfl) rfl (fun r79 L79 f79 hR79 => ?_)
      obtain ⟨rfl, rfl, -, hf9⟩ := hR79
      rw [hf9 rfl]
      refine C.if_eqI (tgt := 97) dX2_readSentence_82 (by decide) (by decide) (fun hc82 => ?_) (fun hc82 => absurd hc82 (by decide))
      exact s2
    | true =>
      rw [hps] at M1 hs
      rw [if_pos rfl] at hs
      have hwu := wend_ge tb e (bl tb e p2)
      have hwe : wend tb e (bl tb e p2) ≤ e := wend_le hbe
      obtain ⟨g1, g2⟩ := condP_rd tb e (wend tb e (bl tb e p2)) hwe
      refine C.null dX2_readSentence_71 ?_
      refine C.astore_nN dX2_readSentence_72 (by decide) rfl ?_
      refine C.aload_n dX2_readSentence_73 rfl ?_
      refine C.getf gf_X2_21 dX2_readSentence_74 h3L h3f rfl ?_
      refine C.bi dX2_readSentence_77 (by decide) ?_
      refine C.callV (M1) cw_X6_take ml_X2_54 im_X6_take sl_X6_take dX2_readSentence_79 h6L h6f rfl rfl (by omega) (by omega) (by omega) (Nat.le_of_ble_eq_true rfl) rfl (fun r79 L79 f79 hR79 => ?_)
      obtain ⟨rfl, rfl, hf9, -⟩ := hR79
      obtain ⟨hRS2, hFE2⟩ := hf9 rfl
      refine C.if_eqI (tgt := 97) dX2_readSentence_82 (by decide) (by decide) (fun hc82 => absurd hc82 (by decide)) (fun hc82 => ?_)
      refine C.aload_n dX2_readSentence_85 rfl ?_
      refine C.ic dX2_readSentence_86 ?_
      skip
      obtain ⟨h3L2, h3f2⟩ := hRS2.o3
      have M2 := r_condP tb e ts c1 a1 (d - 1) L79 f79 (i1 + 1) _ (by omega) hRS2
      cases hq : condP tb e 12 (wend tb e (bl tb e p2)) with
      | inr b =>
        have hbb := g2 b hq
        rw [hq] at M2 hs
        rw [sb_r, sb_r] at hs
        have e1' : rcC (.inr b) (wend tb e (bl tb e p2)) = b - wend tb e (bl tb e p2) := rfl
        have e2' : rcS (.inr b) (wend tb e (bl tb e p2)) = 15 * (b - wend tb e (bl tb e p2)) := rfl
        have hse : sEnd RES = b := by rw [← hs]; rfl
        refine C.callV (M2) cw_X2_readCond ml_X2_65 im_X2_readCond sl_X2_readCond dX2_readSentence_87 h3L2 h3f2 rfl rfl (by omega) (by omega) (by omega) (Nat.le_of_ble_eq_true rfl) rfl (fun r87 L87 f87 hR87 => ?_)
        obtain ⟨hFE3, i3, rfl, hE3⟩ := hR87
        refine C.astore_nN dX2_readSentence_90 (by decide) rfl ?_
        refine C.aload_nN dX2_readSentence_91 rfl ?_
        refine C.ifnonnullN dX2_readSentence_92 ?_
        exact no 95 (Or.inr (Or.inr (Or.inl rfl))) b _ _ _ _ _ _ _ _ _ _ i3 hs.symm (hS.stepE hE3 (hFE2.tr hFE3)) hE3.2.2.2.2 (by omega) (by omega)
      | inl q =>
        obtain ⟨t, p3⟩ := q
        obtain ⟨z1, z2, z3, z4, z5⟩ := g1 t p3 hq
        have hgd := condP_good tb e 12 _ hwe t p3 hq
        rw [hq] at M2 hs
        rw [sb_l, sb_l] at hs
        have hup2 := wiP_up hs
        have e1' : rcC (.inl (t, p3)) (wend tb e (bl tb e p2)) = p3 - wend tb e (bl tb e p2) - 2 := rfl
        have e2' : rcS (.inl (t, p3)) (wend tb e (bl tb e p2)) = 15 * (p3 - wend tb e (bl tb e p2)) - 60 := rfl
        refine C.callV (M2) cw_X2_readCond ml_X2_65 im_X2_readCond sl_X2_readCond dX2_readSentence_87 h3L2 h3f2 rfl rfl (by omega) (by omega) (by omega) (Nat.le_of_ble_eq_true rfl) rfl (fun r87 L87 f87 hR87 => ?_)
        obtain ⟨hFE3, i3, k3, rfl, hRS3, hC3, hi3⟩ := hR87
        refine C.astore_n dX2_readSentence_90 (by decide) rfl ?_
        refine C.aload_n dX2_readSentence_91 rfl ?_
        refine C.ifnonnull (tgt := 97) dX2_readSentence_92 (by decide) ?_
        skip
        exact s97 xs z w (some t) ow (some k3) _ _ _ _ _ _ a1 i3 p3 (hS.step hRS3 (hFE2.tr hFE3)) hRS3.2.2.2.2 hA hB (hw.keep ((hFE2.tr hFE3).p e6)) ⟨hC3, z3, by omega⟩ hz (by omega) (by omega) hs
  -- one act too many
  have s71o : ∀ (xs : List Int) (z : Int) (w : Option TT) (ow : Option Nat) (v3 v4 : Option Value) (b ce sl : Nat) (L1 : List Nat) (f1 : Nat → AC) (c1 : SF) (a1 : SA) (i1 p2 : Nat), SM e ts c a L f L1 f1 c1 a1 i1 → Tk tb e ts i1 p2 → AcS c1 a1 xs → BOk (xs, c1 32, c1 33, z) → (z = 0 ∨ z = 1) → OAt L1 f1 27 ow w → ce + p ≤ b → sl + 15 * p ≤ 15 * b → psP tb e p2 zAnd = true → bl tb e p2 = b → RES = .inr b → X ce sl L1 f1 71 [some (.ref 3), some (va_rf ow), some (.int (iI z)), v3, v4] [] := by
    intro xs z w ow v3 v4 b ce sl L1 f1 c1 a1 i1 p2 hS hk1 hA hB hz hw hce hsl hps hbl hs
    have h7 : tkIs ts i1 7 = true := (tk_is (w := 7) (by omega) hk1).1.trans hps
    have hun : psP tb e p2 zUnless = false := (tk_is (w := 13) (by omega) hk1).1.symm.trans (tk_ex h7 (by decide))
    have hwi : psP tb e p2 zWithin = false := (tk_is (w := 14) (by omega) hk1).1.symm.trans (tk_ex h7 (by decide))
    obtain ⟨h3L, h3f⟩ := hS.o3
    obtain ⟨h6L, h6f⟩ := hS.o6
    have M1 : AM yX6_take cX6_take 3 (some .boolean) (d - 1) 0 0 [.ref 6, .int (iI 13)] L1 f1 (TkPo tb e ts c1 a1 L1 f1 i1 (psP tb e p2 zUnless) (wend tb e (bl tb e p2))) := r_take (w := 13) (by omega) (hS.rs hk1)
    have M2 : AM yX6_take cX6_take 3 (some .boolean) (d - 1) 0 0 [.ref 6, .int (iI 14)] L1 f1 (TkPo tb e ts c1 a1 L1 f1 i1 (psP tb e p2 zWithin) (wend tb e (bl tb e p2))) := r_take (w := 14) (by omega) (hS.rs hk1)
    rw [hun] at M1
    rw [hwi] at M2
    have hse : sEnd RES = b := by rw [hs]; rfl
    have s2 := s133 xs (-1) z w none ow none ce sl L1 f1 c1 a1 i1 hS hA ⟨hB, Or.inl rfl⟩ hw trivial hz (by omega) (by omega) (fun r L' f' hq => by
      obtain ⟨c', a', e', k, hq1, rfl⟩ := hq
      refine ⟨c', a', i1, e', _, hq1, ?_⟩
      rw [hs]
      refine ⟨by rw [tk_beg hk1, hbl], ?_, Or.inr ⟨rfl, h7⟩⟩
      rw [List.length_append]
      exact Nat.le_refl _)
    refine C.null dX2_readSentence_71 ?_
    refine C.astore_nN dX2_readSentence_72 (by decide) rfl ?_
    refine C.aload_n dX2_readSentence_73 rfl ?_
    refine C.getf gf_X2_21 dX2_readSentence_74 h3L h3f rfl ?_
    refine C.bi dX2_readSentence_77 (by decide) ?_
    refine C.callV (M1) cw_X6_take ml_X2_54 im_X6_take sl_X6_take dX2_readSentence_79 h6L h6f rfl rfl (by omega) (by omega) (by omega) (Nat.le_of_ble_eq_true rfl) rfl (fun r79 L79 f79 hR79 => ?_)
    obtain ⟨rfl, rfl, -, hf9⟩ := hR79
    rw [hf9 rfl]
    refine C.if_eqI (tgt := 97) dX2_readSentence_82 (by decide) (by decide) (fun hc82 => ?_) (fun hc82 => absurd hc82 (by decide))
    refine C.ic dX2_readSentence_97 ?_
    refine C.istore dX2_readSentence_98 (by decide) rfl ?_
    refine C.aload_n dX2_readSentence_100 rfl ?_
    refine C.getf gf_X2_21 dX2_readSentence_101 h3L h3f rfl ?_
    refine C.bi dX2_readSentence_104 (by decide) ?_
    refine C.callV (M2) cw_X6_take ml_X2_54 im_X6_take sl_X6_take dX2_readSentence_106 h6L h6f rfl rfl (by omega) (by omega) (by omega) (Nat.le_of_ble_eq_true rfl) rfl (fun r106 L106 f106 hR106 => ?_)
    obtain ⟨rfl, rfl, -, hf8⟩ := hR106
    rw [hf8 rfl]
    refine C.if_eqI (tgt := 133) dX2_readSentence_109 (by decide) (by decide) (fun hc109 => ?_) (fun hc109 => absurd hc109 (by decide))
    exact s2
  -- the body
  have s38 : ∀ (w : Option TT) (ow : Option Nat) (v2 v3 v4 : Option Value) (ce sl : Nat) (L1 : List Nat) (f1 : Nat → AC) (c1 : SF) (a1 : SA) (i1 p1 : Nat), SM e ts c a L f L1 f1 c1 a1 i1 → Tk tb e ts i1 p1 → OAt L1 f1 27 ow w → ce + p ≤ p1 → sl + 15 * p ≤ 15 * p1 → sbind (bodyP tb e p1) (fun b p2 => sbind (unP tb e p2) (fun u p3 => sbind (wiP tb e p3) (fun dy p4 => .inl ((b, dy, w, u), p4)))) = RES → X ce sl L1 f1 38 [some (.ref 3), some (va_rf ow), v2, v3, v4] [] := by
    intro w ow v2 v3 v4 ce sl L1 f1 c1 a1 i1 p1 hS hk1 hw hce hsl hs
    have hp1 := hk1.2
    have hup := bdP_up (k := fun b u dy => (b, dy, w, u)) hp1 hs
    have hbu := bodyP_up (tb := tb) (e := e) (p := p1)
    obtain ⟨h3L, h3f⟩ := hS.o3
    obtain ⟨h6L, h6f⟩ := hS.o6
    have M0 := (k_sees (d := d - 1) (g := f1) (w := 6) (by unfold i3; decide) hS.2.1 hS.2.2.2.1).at hS.1
    have hsee : tkSee ts i1 6 = psP tb e p1 zAct := by
      rw [show psP tb e p1 zAct = tkIs ts i1 6 from (tk_is (w := 6) (by omega) hk1).1.symm]
      unfold tkSee tkIs
      cases ts[i1]? <;> rfl
    rw [hsee] at M0
    -- behind the body
    have t69 : ∀ (z : Int) (c2 : SF) (a2 : SA), BdPo tb e ts c1 a1 (bodyP tb e p1) (some (.int (iI 0))) c2 a2 → X ce sl L1 (kv c2 a2 f1) 69 [some (.ref 3), some (va_rf ow), some (.int (iI z)), v3, v4] [] := by
      intro z c2 a2 hP
      obtain ⟨hG, hP⟩ := hP
      cases hb : bodyP tb e p1 with
      | inl q =>
        rw [hb] at hP
        exact absurd hP.1 (by decide)
      | inr b =>
        rw [hb] at hP hs hbu
        rw [sb_r] at hs
        rcases hP with ⟨-, i2, hT2, hb2⟩ | ⟨h, -⟩
        · have hse : sEnd RES = b := by rw [← hs]; rfl
          exact no 69 (Or.inr (Or.inl rfl)) b _ _ _ _ _ _ _ _ _ _ i2 hs.symm (hS.body hG hT2) hb2 (by omega) (by omega)
        · exact absurd h (by decide)
    have t71 : ∀ (z : Int) (c2 : SF) (a2 : SA), (z = 0 ∨ z = 1) → (∀ b q, bodyP tb e p1 = .inl (b, q) → b.2.2.2 = z) → BdPo tb e ts c1 a1 (bodyP tb e p1) (some (.int (iI 1))) c2 a2 → X ce sl L1 (kv c2 a2 f1) 71 [some (.ref 3), some (va_rf ow), some (.int (iI z)), v3, v4] [] := by
      intro z c2 a2 hz hbz hP
      obtain ⟨hG, hP⟩ := hP
      have hFk : FE [3, 6, 10] L1 f1 L1 (kv c2 a2 f1) := kv_FE hS.1 hG
      have hwk := hw.keep (hFk.p (fun q hq => by have := e3610 q hq; omega))
      cases hb : bodyP tb e p1 with
      | inl q =>
        obtain ⟨⟨xs, wh, mo, zz⟩, p2⟩ := q
        have hzz : zz = z := hbz _ _ hb
        have hok := (bodyP_ok hp1 hb).1
        rw [hb] at hP hs hbu
        rw [sb_l] at hs
        obtain ⟨-, i2, hT2, hk2, hA2, -, h32, h33⟩ := hP
        change c2 32 = wh at h32
        change c2 33 = mo at h33
        change p1 ≤ p2 at hbu
        subst hzz h32 h33
        exact s71 xs zz w ow v3 v4 ce sl L1 _ c2 a2 i2 p2 (hS.body hG hT2) hk2 hA2 hok hwk hz (by omega) (by omega) hs
      | inr b =>
        rw [hb] at hP hs hbu
        rw [sb_r] at hs
        rcases hP with ⟨h, -⟩ | ⟨-, i2, p2, xs, hT2, hk2, hA2, hl2, hps2, hbl2, r32, r33⟩
        · exact absurd h (by decide)
        · change p1 ≤ b at hbu
          refine s71o xs z w ow v3 v4 b ce sl L1 _ c2 a2 i2 p2 (hS.body hG hT2) hk2 hA2 ⟨⟨show xs.length ≤ 3 by omega, show 1 ≤ xs.length by omega, hA2.2.2.2.1, hA2.2.2.2.2⟩, ⟨r32.1, by show c2 32 ≤ 3; omega⟩, r33, hz, fun _ => r32.2⟩ hz hwk (by omega) (by omega) hps2 hbl2 hs.symm
    have hval : ∀ r c2 a2, BdPo tb e ts c1 a1 (bodyP tb e p1) r c2 a2 → r = some (.int (iI 0)) ∨ r = some (.int (iI 1)) := by
      intro r c2 a2 hP
      obtain ⟨-, hP⟩ := hP
      cases hb : bodyP tb e p1 with
      | inl q => rw [hb] at hP; exact Or.inr hP.1
      | inr b =>
        rw [hb] at hP
        rcases hP with ⟨h, -⟩ | ⟨h, -⟩
        · exact Or.inl h
        · exact Or.inr h
    cases hact : psP tb e p1 zAct with
    | true =>
      rw [hact] at M0
      have hbz : ∀ b q, bodyP tb e p1 = .inl (b, q) → b.2.2.2 = 1 := fun b q h => by
        rw [bodyP_pas hk1 hact] at h
        cases hq : actF tb e 3 [] p1 false with
        | inr b0 => rw [hq] at h; cases h
        | inl q0 =>
          rw [hq] at h
          change pasP tb e q0 = .inl (b, q) at h
          unfold pasP at h
          repeat' split at h
          all_goals first | (cases h; rfl) | cases h
      have Mp := (b_readPassive (d := d - 1) (g := f1) (by omega) hS.2.1 hS.2.2.2.1 hk1 hact).at hS.1
      refine C.aload_n dX2_readSentence_38 rfl ?_
      refine C.getf gf_X2_21 dX2_readSentence_39 h3L h3f rfl ?_
      refine C.bi dX2_readSentence_42 (by decide) ?_
      refine C.callV (M0) cw_X6_sees ml_X2_58 im_X6_sees sl_X6_sees dX2_readSentence_44 h6L h6f rfl rfl (by omega) (by omega) (by omega) (Nat.le_of_ble_eq_true rfl) rfl (fun r44 L44 f44 hR44 => ?_)
      obtain ⟨c9, a9, ⟨rfl, hc9, ha9⟩, rfl, hf9⟩ := hR44
      rw [hf9, hc9, ha9, ← hS.1]
      refine C.istore_n dX2_readSentence_47 (by decide) (by cases ow <;> rfl) ?_
      refine C.iload_n dX2_readSentence_48 rfl ?_
      refine C.if_eqI (tgt := 62) dX2_readSentence_49 (by decide) (by decide) (fun hc49 => absurd hc49 (by decide)) (fun hc49 => ?_)
      refine C.aload_n dX2_readSentence_52 rfl ?_
      refine C.callV (Mp) cw_X2_readPassive ml_X2_69 im_X2_readPassive sl_X2_readPassive dX2_readSentence_53 h3L h3f rfl rfl (by omega) (by omega) (by omega) (Nat.le_of_ble_eq_true rfl) rfl (fun r53 L53 f53 hR53 => ?_)
      obtain ⟨c2, a2, hP, rfl, hf8⟩ := hR53
      rw [hf8]
      skip
      rcases hval _ _ _ hP with rfl | rfl
      · refine C.if_eqI (tgt := 69) dX2_readSentence_56 (by decide) (by decide) (fun hc56 => ?_) (fun hc56 => absurd hc56 (by decide))
        exact t69 1 _ _ hP
      · refine C.if_eqI (tgt := 69) dX2_readSentence_56 (by decide) (by decide) (fun hc56 => absurd hc56 (by decide)) (fun hc56 => ?_)
        refine C.goto (tgt := 71) dX2_readSentence_59 (by decide) ?_
        exact t71 1 _ _ (Or.inr rfl) hbz hP
    | false =>
      rw [hact] at M0
      have hbz : ∀ b q, bodyP tb e p1 = .inl (b, q) → b.2.2.2 = 0 := fun b q h => by
        by_cases hwv : 0 ≤ whoV tb e p1
        · rw [bodyP_act hwv] at h
          split at h
          · cases h
          · cases hq : actF tb e 3 [] (modQ tb e (whoQ tb e p1)) false with
            | inr b0 => rw [hq] at h; cases h
            | inl q0 => rw [hq] at h; cases h; rfl
        · unfold bodyP at h
          rw [if_neg hwv, hact] at h
          cases h
      have Mp := (b_readActive (d := d - 1) (g := f1) (by omega) hS.2.1 hS.2.2.2.1 hk1 hact).at hS.1
      refine C.aload_n dX2_readSentence_38 rfl ?_
      refine C.getf gf_X2_21 dX2_readSentence_39 h3L h3f rfl ?_
      refine C.bi dX2_readSentence_42 (by decide) ?_
      refine C.callV (M0) cw_X6_sees ml_X2_58 im_X6_sees sl_X6_sees dX2_readSentence_44 h6L h6f rfl rfl (by omega) (by omega) (by omega) (Nat.le_of_ble_eq_true rfl) rfl (fun r44 L44 f44 hR44 => ?_)
      obtain ⟨c9, a9, ⟨rfl, hc9, ha9⟩, rfl, hf9⟩ := hR44
      rw [hf9, hc9, ha9, ← hS.1]
      refine C.istore_n dX2_readSentence_47 (by decide) (by cases ow <;> rfl) ?_
      refine C.iload_n dX2_readSentence_48 rfl ?_
      refine C.if_eqI (tgt := 62) dX2_readSentence_49 (by decide) (by decide) (fun hc49 => ?_) (fun hc49 => absurd hc49 (by decide))
      refine C.aload_n dX2_readSentence_62 rfl ?_
      refine C.callV (Mp) cw_X2_readActive ml_X2_72 im_X2_readActive sl_X2_readActive dX2_readSentence_63 h3L h3f rfl rfl (by omega) (by omega) (by omega) (Nat.le_of_ble_eq_true rfl) rfl (fun r63 L63 f63 hR63 => ?_)
      obtain ⟨c2, a2, hP, rfl, hf8⟩ := hR63
      rw [hf8]
      skip
      rcases hval _ _ _ hP with rfl | rfl
      · refine C.if_neI (tgt := 71) dX2_readSentence_66 (by decide) (by decide) (fun hc66 => absurd hc66 (by decide)) (fun hc66 => ?_)
        exact t69 0 _ _ hP
      · refine C.if_neI (tgt := 71) dX2_readSentence_66 (by decide) (by decide) (fun hc66 => ?_) (fun hc66 => absurd hc66 (by decide))
        exact t71 0 _ _ (Or.inl rfl) hbz hP
  -- if
  have hS0 : SM e ts c a L f L f c a i := ⟨hK, hL, h18, hT, GR.rf, FE.rf⟩
  obtain ⟨h3L, h3f⟩ := hS0.o3
  obtain ⟨h6L, h6f⟩ := hS0.o6
  have M1 : AM yX6_take cX6_take 3 (some .boolean) (d - 1) 0 0 [.ref 6, .int (iI 12)] L f (TkPo tb e ts c a L f i (psP tb e p zIf) (wend tb e (bl tb e p))) := r_take (w := 12) (by omega) (hS0.rs hk)
  have hb1 := bl_ge tb e p
  have hbe1 : bl tb e p ≤ e := bl_le hpe
  unfold ifP at hRES
  cases hif : psP tb e p zIf with
  | false =>
    rw [hif] at M1 hRES
    rw [if_neg (by decide), sb_l] at hRES
    have s2 := s38 none none none none none 0 0 L f c a i (bl tb e p) hS0 hk.bl trivial (by omega) (by omega) hRES
    refine C.null dX2_readSentence_0 ?_
    refine C.astore_nN dX2_readSentence_1 (by decide) rfl ?_
    refine C.aload_n dX2_readSentence_2 rfl ?_
    refine C.getf gf_X2_21 dX2_readSentence_3 h3L h3f rfl ?_
    refine C.bi dX2_readSentence_6 (by decide) ?_
    refine C.callV (M1) cw_X6_take ml_X2_54 im_X6_take sl_X6_take dX2_readSentence_8 h6L h6f rfl rfl (by omega) (by omega) (by omega) (Nat.le_of_ble_eq_true rfl) rfl (fun r8 L8 f8 hR8 => ?_)
    obtain ⟨rfl, rfl, -, hf9⟩ := hR8
    rw [hf9 rfl]
    refine C.if_eqI (tgt := 38) dX2_readSentence_11 (by decide) (by decide) (fun hc11 => ?_) (fun hc11 => absurd hc11 (by decide))
    exact s2
  | true =>
    rw [hif] at M1 hRES
    rw [if_pos rfl] at hRES
    have hwu := wend_ge tb e (bl tb e p)
    have hwe : wend tb e (bl tb e p) ≤ e := wend_le hbe1
    obtain ⟨g1, g2⟩ := condP_rd tb e (wend tb e (bl tb e p)) hwe
    refine C.null dX2_readSentence_0 ?_
    refine C.astore_nN dX2_readSentence_1 (by decide) rfl ?_
    refine C.aload_n dX2_readSentence_2 rfl ?_
    refine C.getf gf_X2_21 dX2_readSentence_3 h3L h3f rfl ?_
    refine C.bi dX2_readSentence_6 (by decide) ?_
    refine C.callV (M1) cw_X6_take ml_X2_54 im_X6_take sl_X6_take dX2_readSentence_8 h6L h6f rfl rfl (by omega) (by omega) (by omega) (Nat.le_of_ble_eq_true rfl) rfl (fun r8 L8 f8 hR8 => ?_)
    obtain ⟨rfl, rfl, hf9, -⟩ := hR8
    obtain ⟨hRS2, hFE2⟩ := hf9 rfl
    refine C.if_eqI (tgt := 38) dX2_readSentence_11 (by decide) (by decide) (fun hc11 => absurd hc11 (by decide)) (fun hc11 => ?_)
    refine C.aload_n dX2_readSentence_14 rfl ?_
    refine C.ic dX2_readSentence_15 ?_
    skip
    obtain ⟨h3L2, h3f2⟩ := hRS2.o3
    have M2 := r_condP tb e ts c a (d - 1) L8 f8 (i + 1) _ (by omega) hRS2
    cases hq : condP tb e 12 (wend tb e (bl tb e p)) with
    | inr b =>
      have hbb := g2 b hq
      rw [hq] at M2 hRES
      rw [sb_r, sb_r] at hRES
      have e1' : rcC (.inr b) (wend tb e (bl tb e p)) = b - wend tb e (bl tb e p) := rfl
      have e2' : rcS (.inr b) (wend tb e (bl tb e p)) = 15 * (b - wend tb e (bl tb e p)) := rfl
      have hse : sEnd RES = b := by rw [← hRES]; rfl
      refine C.callV (M2) cw_X2_readCond ml_X2_65 im_X2_readCond sl_X2_readCond dX2_readSentence_16 h3L2 h3f2 rfl rfl (by omega) (by omega) (by omega) (Nat.le_of_ble_eq_true rfl) rfl (fun r16 L16 f16 hR16 => ?_)
      obtain ⟨hFE3, i3, rfl, hE3⟩ := hR16
      refine C.astore_nN dX2_readSentence_19 (by decide) rfl ?_
      refine C.aload_nN dX2_readSentence_20 rfl ?_
      refine C.ifnullN (tgt := 36) dX2_readSentence_21 (by decide) ?_
      exact no 36 (Or.inl rfl) b _ _ _ _ _ _ _ _ _ _ i3 hRES.symm (hS0.stepE hE3 (hFE2.tr hFE3)) hE3.2.2.2.2 (by omega) (by omega)
    | inl q =>
      obtain ⟨t, p1⟩ := q
      obtain ⟨z1, z2, z3, z4, z5⟩ := g1 t p1 hq
      have hgd := condP_good tb e 12 _ hwe t p1 hq
      rw [hq] at M2 hRES
      rw [sb_l] at hRES
      have hb3 := bl_ge tb e p1
      have e1' : rcC (.inl (t, p1)) (wend tb e (bl tb e p)) = p1 - wend tb e (bl tb e p) - 2 := rfl
      have e2' : rcS (.inl (t, p1)) (wend tb e (bl tb e p)) = 15 * (p1 - wend tb e (bl tb e p)) - 60 := rfl
      have hse1 : p1 ≤ sEnd RES := by
        cases hsg : sgP tb e p1 44 with
        | false =>
          rw [hsg, if_neg (by decide), sb_r] at hRES
          rw [← hRES]
          exact hb3
        | true =>
          rw [hsg, if_pos rfl, sb_l] at hRES
          have hlt := sgP_lt hsg
          have := bdP_up (k := fun b u dy => (b, dy, some t, u)) (by omega) hRES
          omega
      refine C.callV (M2) cw_X2_readCond ml_X2_65 im_X2_readCond sl_X2_readCond dX2_readSentence_16 h3L2 h3f2 rfl rfl (by omega) (by omega) (by omega) (Nat.le_of_ble_eq_true rfl) rfl (fun r16 L16 f16 hR16 => ?_)
      obtain ⟨hFE3, i3, k3, rfl, hRS3, hC3, hi3⟩ := hR16
      refine C.astore_n dX2_readSentence_19 (by decide) rfl ?_
      refine C.aload_n dX2_readSentence_20 rfl ?_
      refine C.ifnull dX2_readSentence_21 ?_
      skip
      have hS3 := hS0.step hRS3 (hFE2.tr hFE3)
      obtain ⟨h3L3, h3f3⟩ := hS3.o3
      obtain ⟨h6L3, h6f3⟩ := hS3.o6
      have M3 : AM yX6_take cX6_take 3 (some .boolean) (d - 1) 0 0 [.ref 6, .int (iI 20)] L16 f16 (TkPo tb e ts c a L16 f16 i3 (sgP tb e p1 44) (bl tb e p1 + 1)) := r_sign (w := 20) (Or.inr (Or.inr (Or.inl ⟨rfl, rfl⟩))) hRS3
      cases hsg : sgP tb e p1 44 with
      | false =>
        rw [hsg] at M3 hRES
        rw [if_neg (by decide), sb_r] at hRES
        refine C.aload_n dX2_readSentence_24 rfl ?_
        refine C.getf gf_X2_21 dX2_readSentence_25 h3L3 h3f3 rfl ?_
        refine C.bi dX2_readSentence_28 (by decide) ?_
        refine C.callV (M3) cw_X6_take ml_X2_54 im_X6_take sl_X6_take dX2_readSentence_30 h6L3 h6f3 rfl rfl (by omega) (by omega) (by omega) (Nat.le_of_ble_eq_true rfl) rfl (fun r30 L30 f30 hR30 => ?_)
        obtain ⟨rfl, rfl, -, hf7⟩ := hR30
        rw [hf7 rfl]
        refine C.if_neI (tgt := 38) dX2_readSentence_33 (by decide) (by decide) (fun hc33 => absurd hc33 (by decide)) (fun hc33 => ?_)
        exact no 36 (Or.inl rfl) _ _ _ _ _ _ _ _ _ _ _ i3 hRES.symm hS3 (tk_beg hRS3.2.2.2.2) (by omega) (by omega)
      | true =>
        rw [hsg] at M3 hRES
        rw [if_pos rfl, sb_l] at hRES
        refine C.aload_n dX2_readSentence_24 rfl ?_
        refine C.getf gf_X2_21 dX2_readSentence_25 h3L3 h3f3 rfl ?_
        refine C.bi dX2_readSentence_28 (by decide) ?_
        refine C.callV (M3) cw_X6_take ml_X2_54 im_X6_take sl_X6_take dX2_readSentence_30 h6L3 h6f3 rfl rfl (by omega) (by omega) (by omega) (Nat.le_of_ble_eq_true rfl) rfl (fun r30 L30 f30 hR30 => ?_)
        obtain ⟨rfl, rfl, hf7, -⟩ := hR30
        obtain ⟨hRS4, hFE4⟩ := hf7 rfl
        refine C.if_neI (tgt := 38) dX2_readSentence_33 (by decide) (by decide) (fun hc33 => ?_) (fun hc33 => absurd hc33 (by decide))
        skip
        exact s38 (some t) (some k3) _ _ _ _ _ _ _ _ a (i3 + 1) (bl tb e p1 + 1) (hS0.step hRS4 ((hFE2.tr hFE3).tr hFE4)) hRS4.2.2.2.2 ⟨CAt.keep (hFE4.p e6) _ hC3, z3, by omega⟩ (by omega) (by omega) hRES
end RSENT
