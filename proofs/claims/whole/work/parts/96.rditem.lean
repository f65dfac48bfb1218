/-! an item of a condition, read by the class -/
theorem tk_ex {ts : List (Int × Int × Int)} {i : Nat} {w1 w2 : Int} (h : tkIs ts i w1 = true) (hne : w1 ≠ w2) : tkIs ts i w2 = false := by
  unfold tkIs at h ⊢
  cases hti : ts[i]? with
  | none => rfl
  | some t =>
    rw [hti] at h
    have h2 : t.1 = w1 := of_decide_eq_true h
    exact decide_eq_false (fun h3 => hne (h2.symm.trans h3))
section RDI
variable {tb : Nat → Int} {e i p d dp : Nat} {ts : List (Int × Int × Int)} {c : SF} {a : SA} {L : List Nat} {f : Nat → AC}
theorem itemB_case {rec : Option (Nat → RR)} (h : Tk tb e ts i p) (hc : psP tb e p zCase = true) : itemB tb e rec p = if nmV tb e (bl tb e (wend tb e (bl tb e p))) 0 5 < 0 then .inr (bl tb e (wend tb e (bl tb e p))) else .inl (.count (nmV tb e (bl tb e (wend tb e (bl tb e p))) 0 5).toNat, dend tb e (bl tb e (wend tb e (bl tb e p)))) := by
  have h15 : tkIs ts i 15 = true := (tk_is (w := 15) (by omega) h).1.trans hc
  have hn : psP tb e p zNot = false := (tk_is (w := 4) (by omega) h).1.symm.trans (tk_ex h15 (by decide))
  have hs : sgP tb e p 40 = false := (tk_sg (w := 18) (Or.inl ⟨rfl, rfl⟩) h).1.symm.trans (tk_ex h15 (by decide))
  unfold itemB
  rw [hs, hn, hc]
  rfl
theorem itemB_not {F : Nat → RR} (h : Tk tb e ts i p) (hn : psP tb e p zNot = true) : itemB tb e (some F) p = bnd (F (wend tb e (bl tb e p))) (fun t p1 => .inl (.not t, p1)) := by
  have h4 : tkIs ts i 4 = true := (tk_is (w := 4) (by omega) h).1.trans hn
  have hs : sgP tb e p 40 = false := (tk_sg (w := 18) (Or.inl ⟨rfl, rfl⟩) h).1.symm.trans (tk_ex h4 (by decide))
  unfold itemB
  rw [hs, hn]
  rfl
theorem itemB_none (hc : psP tb e p zCase = false) : itemB tb e none p = .inr (bl tb e p) := by
  unfold itemB
  rw [hc]
  cases sgP tb e p 40 <;> cases psP tb e p zNot <;> rfl
theorem r_case {D : Nat} {rec : Option (Nat → RR)} (hd : 6 ≤ d) (h : RS tb e ts c a L f i p) (hc : psP tb e p zCase = true) (hD : 1 ≤ D) : AM yX2_readItem cX2_readItem 3 (some (.object "PlainWords$Cond")) d (rcC (itemB tb e rec p) p) (rcS (itemB tb e rec p) p) [.ref 3, .int (iI dp)] L f (RcPo tb e ts c a L f i D (itemB tb e rec p)) := by
  have hlt := h.lt
  have M1 : AM yX6_take cX6_take 3 (some .boolean) (d - 1) 0 0 [.ref 6, .int (iI 15)] L f (TkPo tb e ts c a L f i (psP tb e p zCase) (wend tb e (bl tb e p))) := r_take (w := 15) (by omega) h
  rw [hc] at M1
  obtain ⟨h3L, h3f⟩ := h.o3
  obtain ⟨h6L, h6f⟩ := h.o6
  have hb := bl_ge tb e p
  have hbe : bl tb e p ≤ e := bl_le hlt.2.2.1
  have hpl := psP_len hc
  change wend tb e (bl tb e p) = bl tb e p + 4 at hpl
  have hb2 := bl_ge tb e (wend tb e (bl tb e p))
  rw [itemB_case h.2.2.2.2 hc]
  by_cases hv : nmV tb e (bl tb e (wend tb e (bl tb e p))) 0 5 < 0
  · rw [if_pos hv]
    have hv1 : nmV tb e (bl tb e (wend tb e (bl tb e p))) 0 5 = -1 := by
      have := nmV_rng tb e (bl tb e (wend tb e (bl tb e p))) 0 5
      omega
    refine AM.of (by decide +kernel) (by simp [Value.category]) (Nat.le_of_ble_eq_true rfl) false (fun h => by cases h) (fun X C => ?_)
    refine C.aload_n dX2_readItem_0 rfl ?_
    refine C.getf gf_X2_21 dX2_readItem_1 h3L h3f rfl ?_
    refine C.bi dX2_readItem_4 (by decide) ?_
    refine C.callV (M1) cw_X6_take ml_X2_54 im_X6_take sl_X6_take dX2_readItem_6 h6L h6f rfl rfl (by omega) (by omega) (by omega) (Nat.le_of_ble_eq_true rfl) rfl (fun r6 L6 f6 hR6 => ?_)
    obtain ⟨rfl, rfl, hf9, -⟩ := hR6
    obtain ⟨hRS2, hFE2⟩ := hf9 rfl
    refine C.if_eqI (tgt := 25) dX2_readItem_9 (by decide) (by decide) (fun hc9 => absurd hc9 (by decide)) (fun hc9 => ?_)
    skip
    obtain ⟨h3L2, h3f2⟩ := hRS2.o3
    obtain ⟨h6L2, h6f2⟩ := hRS2.o6
    have M2 := r_number (d := d - 1) (lo := 0) (hi := 5) (by decide) (by decide) (by omega) hRS2
    rw [hv1] at M2
    refine C.aload_n dX2_readItem_12 rfl ?_
    refine C.getf gf_X2_21 dX2_readItem_13 h3L2 h3f2 rfl ?_
    refine C.ic dX2_readItem_16 ?_
    refine C.ic dX2_readItem_17 ?_
    refine C.callV (M2) cw_X6_takeNumber ml_X2_75 im_X6_takeNumber sl_X6_takeNumber dX2_readItem_18 h6L2 h6f2 rfl rfl (by omega) (by omega) (by omega) (Nat.le_of_ble_eq_true rfl) rfl (fun r18 L18 f18 hR18 => ?_)
    obtain ⟨rfl, rfl, -, hn⟩ := hR18
    rw [hn (by decide)]
    refine C.callS (c_ofCaseN (d := d - 1)) cw_X0_ofCase ml_X2_136 sm_X0_ofCase dX2_readItem_21 rfl (by omega) (by omega) (by omega) (Nat.le_of_ble_eq_true rfl) rfl (fun r21 L21 f21 hR21 => ?_)
    obtain ⟨rfl, hL9, hf9⟩ := hR21
    rw [hL9, hf9]
    clear hL9 hf9
    refine C.aretN rfl (Or.inl ⟨_, rfl⟩) dX2_readItem_24 (by omega) (by omega) ⟨hFE2, i + 1, rfl, hRS2.re⟩
    skip
  · rw [if_neg hv]
    obtain ⟨n1, n2, n3⟩ := nmV_pos (Int.le_refl 0) hv
    generalize hN : (nmV tb e (bl tb e (wend tb e (bl tb e p))) 0 5).toNat = N
    have e1 : rcC (.inl (.count N, dend tb e (bl tb e (wend tb e (bl tb e p))))) p = dend tb e (bl tb e (wend tb e (bl tb e p))) - p - 2 := rfl
    have e2 : rcS (.inl (.count N, dend tb e (bl tb e (wend tb e (bl tb e p))))) p = 15 * (dend tb e (bl tb e (wend tb e (bl tb e p))) - p) - 60 := rfl
    refine AM.of (by decide +kernel) (by simp [Value.category]) (Nat.le_of_ble_eq_true rfl) false (fun h => by cases h) (fun X C => ?_)
    refine C.aload_n dX2_readItem_0 rfl ?_
    refine C.getf gf_X2_21 dX2_readItem_1 h3L h3f rfl ?_
    refine C.bi dX2_readItem_4 (by decide) ?_
    refine C.callV (M1) cw_X6_take ml_X2_54 im_X6_take sl_X6_take dX2_readItem_6 h6L h6f rfl rfl (by omega) (by omega) (by omega) (Nat.le_of_ble_eq_true rfl) rfl (fun r6 L6 f6 hR6 => ?_)
    obtain ⟨rfl, rfl, hf9, -⟩ := hR6
    obtain ⟨hRS2, hFE2⟩ := hf9 rfl
    refine C.if_eqI (tgt := 25) dX2_readItem_9 (by decide) (by decide) (fun hc9 => absurd hc9 (by decide)) (fun hc9 => ?_)
    skip
    obtain ⟨h3L2, h3f2⟩ := hRS2.o3
    obtain ⟨h6L2, h6f2⟩ := hRS2.o6
    have M2 := r_number (d := d - 1) (lo := 0) (hi := 5) (by decide) (by decide) (by omega) hRS2
    refine C.aload_n dX2_readItem_12 rfl ?_
    refine C.getf gf_X2_21 dX2_readItem_13 h3L2 h3f2 rfl ?_
    refine C.ic dX2_readItem_16 ?_
    refine C.ic dX2_readItem_17 ?_
    refine C.callV (M2) cw_X6_takeNumber ml_X2_75 im_X6_takeNumber sl_X6_takeNumber dX2_readItem_18 h6L2 h6f2 rfl rfl (by omega) (by omega) (by omega) (Nat.le_of_ble_eq_true rfl) rfl (fun r18 L18 f18 hR18 => ?_)
    obtain ⟨rfl, rfl, hp, -⟩ := hR18
    obtain ⟨hRS3, hFE3⟩ := hp hv
    skip
    refine C.topI (b := (N : Int)) (by omega) ?_
    have M3 := c_ofCase (d := d - 1) (n := N) (by omega) (by omega) hRS3.2.2.2.1
    refine C.callS (M3) cw_X0_ofCase ml_X2_136 sm_X0_ofCase dX2_readItem_21 rfl (by omega) (by omega) (by omega) (Nat.le_of_ble_eq_true rfl) rfl (fun r21 L21 f21 hR21 => ?_)
    obtain ⟨k, rfl, hC, hF⟩ := hR21
    refine C.aret rfl (Or.inl ⟨_, rfl⟩) dX2_readItem_24 (by omega) (by omega) ⟨(hFE2.tr hFE3).tr hF.e, i + 1 + 1, k, rfl, hRS3.keep hF, CAt.mono 1 hD hC, by omega⟩
    skip
set_option maxRecDepth 20000 in
set_option maxHeartbeats 4000000 in
theorem r_item (tb : Nat → Int) (e : Nat) (ts : List (Int × Int × Int)) (c : SF) (a : SA) : ∀ (k dp : Nat), dp + k = 12 → ItC tb e ts c a dp (2 * k + 1) (10 + 12 * k) (itemP tb e k) := by
  intro k
  induction k with
  | zero =>
    intro dp hdp d L f i p hd h
    show AM yX2_readItem cX2_readItem 3 (some (.object "PlainWords$Cond")) d (rcC (itemB tb e none p) p) (rcS (itemB tb e none p) p) [.ref 3, .int (iI dp)] L f (RcPo tb e ts c a L f i 1 (itemB tb e none p))
    cases hc : psP tb e p zCase with
    | true => exact r_case (by omega) h hc (Nat.le_refl _)
    | false =>
      have M1 : AM yX6_take cX6_take 3 (some .boolean) (d - 1) 0 0 [.ref 6, .int (iI 15)] L f (TkPo tb e ts c a L f i (psP tb e p zCase) (wend tb e (bl tb e p))) := r_take (w := 15) (by omega) h
      rw [hc] at M1
      rw [itemB_none hc]
      obtain ⟨h3L, h3f⟩ := h.o3
      obtain ⟨h6L, h6f⟩ := h.o6
      refine AM.of (by decide +kernel) (by simp [Value.category]) (Nat.le_of_ble_eq_true rfl) false (fun h => by cases h) (fun X C => ?_)
      refine C.aload_n dX2_readItem_0 rfl ?_
      refine C.getf gf_X2_21 dX2_readItem_1 h3L h3f rfl ?_
      refine C.bi dX2_readItem_4 (by decide) ?_
      refine C.callV (M1) cw_X6_take ml_X2_54 im_X6_take sl_X6_take dX2_readItem_6 h6L h6f rfl rfl (by omega) (by omega) (by omega) (Nat.le_of_ble_eq_true rfl) rfl (fun r6 L6 f6 hR6 => ?_)
      obtain ⟨rfl, rfl, -, hf9⟩ := hR6
      rw [hf9 rfl]
      refine C.if_eqI (tgt := 25) dX2_readItem_9 (by decide) (by decide) (fun hc9 => ?_) (fun hc9 => absurd hc9 (by decide))
      refine C.iload_n dX2_readItem_25 rfl ?_
      refine C.bi dX2_readItem_26 (by decide) ?_
      refine C.icmp_ltI (tgt := 33) dX2_readItem_28 (by decide) (by omega) (by omega) (fun hc28 => absurd hc28 (by omega)) (fun hc28 => ?_)
      refine C.null dX2_readItem_31 ?_
      refine C.aretN rfl (Or.inl ⟨_, rfl⟩) dX2_readItem_32 (by omega) (by omega) ⟨FE.rf, i, rfl, h.re⟩
      skip
  | succ k ih =>
    intro dp hdp d L f i p hd h
    show AM yX2_readItem cX2_readItem 3 (some (.object "PlainWords$Cond")) d (rcC (itemB tb e (some (itemP tb e k)) p) p) (rcS (itemB tb e (some (itemP tb e k)) p) p) [.ref 3, .int (iI dp)] L f (RcPo tb e ts c a L f i (2 * (k + 1) + 1) (itemB tb e (some (itemP tb e k)) p))
    cases hc : psP tb e p zCase with
    | true => exact r_case (by omega) h hc (by omega)
    | false =>
      have hlt := h.lt
      have hb := bl_ge tb e p
      have hbe : bl tb e p ≤ e := bl_le hlt.2.2.1
      have M1 : AM yX6_take cX6_take 3 (some .boolean) (d - 1) 0 0 [.ref 6, .int (iI 15)] L f (TkPo tb e ts c a L f i (psP tb e p zCase) (wend tb e (bl tb e p))) := r_take (w := 15) (by omega) h
      rw [hc] at M1
      have M2 : AM yX6_take cX6_take 3 (some .boolean) (d - 1) 0 0 [.ref 6, .int (iI 4)] L f (TkPo tb e ts c a L f i (psP tb e p zNot) (wend tb e (bl tb e p))) := r_take (w := 4) (by omega) h
      obtain ⟨h3L, h3f⟩ := h.o3
      obtain ⟨h6L, h6f⟩ := h.o6
      cases hn : psP tb e p zNot with
      | true =>
        rw [hn] at M2
        rw [itemB_not h.2.2.2.2 hn]
        have hpl := psP_len hn
        change wend tb e (bl tb e p) = bl tb e p + 3 at hpl
        have hwe : wend tb e (bl tb e p) ≤ e := wend_le hbe
        obtain ⟨y1, y2⟩ := itemP_rd tb e k _ hwe
        cases hq : itemP tb e k (wend tb e (bl tb e p)) with
        | inr b0 =>
          have := y2 b0 hq
          rw [bnd_r]
          have e1 : rcC (.inr b0) (wend tb e (bl tb e p)) = b0 - wend tb e (bl tb e p) := rfl
          have e2 : rcS (.inr b0) (wend tb e (bl tb e p)) = 15 * (b0 - wend tb e (bl tb e p)) := rfl
          have e3 : rcC (.inr b0) p = b0 - p := rfl
          have e4 : rcS (.inr b0) p = 15 * (b0 - p) := rfl
          refine AM.of (by decide +kernel) (by simp [Value.category]) (Nat.le_of_ble_eq_true rfl) false (fun h => by cases h) (fun X C => ?_)
          refine C.aload_n dX2_readItem_0 rfl ?_
          refine C.getf gf_X2_21 dX2_readItem_1 h3L h3f rfl ?_
          refine C.bi dX2_readItem_4 (by decide) ?_
          refine C.callV (M1) cw_X6_take ml_X2_54 im_X6_take sl_X6_take dX2_readItem_6 h6L h6f rfl rfl (by omega) (by omega) (by omega) (Nat.le_of_ble_eq_true rfl) rfl (fun r6 L6 f6 hR6 => ?_)
          obtain ⟨rfl, rfl, -, hf9⟩ := hR6
          rw [hf9 rfl]
          refine C.if_eqI (tgt := 25) dX2_readItem_9 (by decide) (by decide) (fun hc9 => ?_) (fun hc9 => absurd hc9 (by decide))
          refine C.iload_n dX2_readItem_25 rfl ?_
          refine C.bi dX2_readItem_26 (by decide) ?_
          refine C.icmp_ltI (tgt := 33) dX2_readItem_28 (by decide) (by omega) (by omega) (fun hc28 => ?_) (fun hc28 => absurd hc28 (by omega))
          refine C.aload_n dX2_readItem_33 rfl ?_
          refine C.getf gf_X2_21 dX2_readItem_34 h3L h3f rfl ?_
          refine C.ic dX2_readItem_37 ?_
          refine C.callV (M2) cw_X6_take ml_X2_54 im_X6_take sl_X6_take dX2_readItem_38 h6L h6f rfl rfl (by omega) (by omega) (by omega) (Nat.le_of_ble_eq_true rfl) rfl (fun r38 L38 f38 hR38 => ?_)
          obtain ⟨rfl, rfl, hf8, -⟩ := hR38
          obtain ⟨hRS2, hFE2⟩ := hf8 rfl
          refine C.if_eqI (tgt := 55) dX2_readItem_41 (by decide) (by decide) (fun hc41 => absurd hc41 (by decide)) (fun hc41 => ?_)
          refine C.aload_n dX2_readItem_44 rfl ?_
          refine C.iload_n dX2_readItem_45 rfl ?_
          refine C.ic dX2_readItem_46 ?_
          refine C.iaddI dX2_readItem_47 ?_
          skip
          obtain ⟨h3L2, h3f2⟩ := hRS2.o3
          have M3 := ih (dp + 1) (by omega) (d - 1) L38 f38 (i + 1) _ (by omega) hRS2
          rw [hq] at M3
          refine C.callV (M3) cw_X2_readItem ml_X2_133 im_X2_readItem sl_X2_readItem dX2_readItem_48 h3L2 h3f2 rfl rfl (by omega) (by omega) (by omega) (Nat.le_of_ble_eq_true rfl) rfl (fun r48 L48 f48 hR48 => ?_)
          obtain ⟨hFE3, i3, rfl, hE3⟩ := hR48
          refine C.callS (c_negatedN (d := d - 1)) cw_X0_negated ml_X2_139 sm_X0_negated dX2_readItem_51 rfl (by omega) (by omega) (by omega) (Nat.le_of_ble_eq_true rfl) rfl (fun r51 L51 f51 hR51 => ?_)
          obtain ⟨rfl, hL9, hf9⟩ := hR51
          rw [hL9, hf9]
          clear hL9 hf9
          refine C.aretN rfl (Or.inl ⟨_, rfl⟩) dX2_readItem_54 (by omega) (by omega) ⟨hFE2.tr hFE3, i3, rfl, hE3⟩
          skip
        | inl q =>
          obtain ⟨t, p1⟩ := q
          obtain ⟨z1, z2, z3, z4, z5⟩ := y1 t p1 hq
          rw [bnd_l]
          have e1 : rcC (.inl (t, p1)) (wend tb e (bl tb e p)) = p1 - wend tb e (bl tb e p) - 2 := rfl
          have e2 : rcS (.inl (t, p1)) (wend tb e (bl tb e p)) = 15 * (p1 - wend tb e (bl tb e p)) - 60 := rfl
          have e3 : rcC (.inl (.not t, p1)) p = p1 - p - 2 := rfl
          have e4 : rcS (.inl (.not t, p1)) p = 15 * (p1 - p) - 60 := rfl
          refine AM.of (by decide +kernel) (by simp [Value.category]) (Nat.le_of_ble_eq_true rfl) false (fun h => by cases h) (fun X C => ?_)
          refine C.aload_n dX2_readItem_0 rfl ?_
          refine C.getf gf_X2_21 dX2_readItem_1 h3L h3f rfl ?_
          refine C.bi dX2_readItem_4 (by decide) ?_
          refine C.callV (M1) cw_X6_take ml_X2_54 im_X6_take sl_X6_take dX2_readItem_6 h6L h6f rfl rfl (by omega) (by omega) (by omega) (Nat.le_of_ble_eq_true rfl) rfl (fun r6 L6 f6 hR6 => ?_)
          obtain ⟨rfl, rfl, -, hf9⟩ := hR6
          rw [hf9 rfl]
          refine C.if_eqI (tgt := 25) dX2_readItem_9 (by decide) (by decide) (fun hc9 => ?_) (fun hc9 => absurd hc9 (by decide))
          refine C.iload_n dX2_readItem_25 rfl ?_
          refine C.bi dX2_readItem_26 (by decide) ?_
          refine C.icmp_ltI (tgt := 33) dX2_readItem_28 (by decide) (by omega) (by omega) (fun hc28 => ?_) (fun hc28 => absurd hc28 (by omega))
          refine C.aload_n dX2_readItem_33 rfl ?_
          refine C.getf gf_X2_21 dX2_readItem_34 h3L h3f rfl ?_
          refine C.ic dX2_readItem_37 ?_
          refine C.callV (M2) cw_X6_take ml_X2_54 im_X6_take sl_X6_take dX2_readItem_38 h6L h6f rfl rfl (by omega) (by omega) (by omega) (Nat.le_of_ble_eq_true rfl) rfl (fun r38 L38 f38 hR38 => ?_)
          obtain ⟨rfl, rfl, hf8, -⟩ := hR38
          obtain ⟨hRS2, hFE2⟩ := hf8 rfl
          refine C.if_eqI (tgt := 55) dX2_readItem_41 (by decide) (by decide) (fun hc41 => absurd hc41 (by decide)) (fun hc41 => ?_)
          refine C.aload_n dX2_readItem_44 rfl ?_
          refine C.iload_n dX2_readItem_45 rfl ?_
          refine C.ic dX2_readItem_46 ?_
          refine C.iaddI dX2_readItem_47 ?_
          skip
          obtain ⟨h3L2, h3f2⟩ := hRS2.o3
          have M3 := ih (dp + 1) (by omega) (d - 1) L38 f38 (i + 1) _ (by omega) hRS2
          rw [hq] at M3
          refine C.callV (M3) cw_X2_readItem ml_X2_133 im_X2_readItem sl_X2_readItem dX2_readItem_48 h3L2 h3f2 rfl rfl (by omega) (by omega) (by omega) (Nat.le_of_ble_eq_true rfl) rfl (fun r48 L48 f48 hR48 => ?_)
          obtain ⟨hFE3, i3, k3, rfl, hRS3, hC3, hi3⟩ := hR48
          skip
          have M4 := c_negated (d := d - 1) (by omega) z3 hC3
          refine C.callS (M4) cw_X0_negated ml_X2_139 sm_X0_negated dX2_readItem_51 rfl (by omega) (by omega) (by omega) (Nat.le_of_ble_eq_true rfl) rfl (fun r51 L51 f51 hR51 => ?_)
          obtain ⟨k4, rfl, hC4, hF4⟩ := hR51
          refine C.aret rfl (Or.inl ⟨_, rfl⟩) dX2_readItem_54 (by omega) (by omega) ⟨(hFE2.tr hFE3).tr hF4.e, i3, k4, rfl, hRS3.keep hF4, CAt.mono _ (by omega) hC4, by omega⟩
          skip
      | false =>
        rw [hn] at M2
        have M3 : AM yX6_take cX6_take 3 (some .boolean) (d - 1) 0 0 [.ref 6, .int (iI 18)] L f (TkPo tb e ts c a L f i (sgP tb e p 40) (bl tb e p + 1)) := r_sign (w := 18) (Or.inl ⟨rfl, rfl⟩) h
        cases hs : sgP tb e p 40 with
        | false =>
          rw [hs] at M3
          have hIB : itemB tb e (some (itemP tb e k)) p = .inr (bl tb e p) := by unfold itemB; rw [hs, hn, hc]; rfl
          rw [hIB]
          refine AM.of (by decide +kernel) (by simp [Value.category]) (Nat.le_of_ble_eq_true rfl) false (fun h => by cases h) (fun X C => ?_)
          refine C.aload_n dX2_readItem_0 rfl ?_
          refine C.getf gf_X2_21 dX2_readItem_1 h3L h3f rfl ?_
          refine C.bi dX2_readItem_4 (by decide) ?_
          refine C.callV (M1) cw_X6_take ml_X2_54 im_X6_take sl_X6_take dX2_readItem_6 h6L h6f rfl rfl (by omega) (by omega) (by omega) (Nat.le_of_ble_eq_true rfl) rfl (fun r6 L6 f6 hR6 => ?_)
          obtain ⟨rfl, rfl, -, hf9⟩ := hR6
          rw [hf9 rfl]
          refine C.if_eqI (tgt := 25) dX2_readItem_9 (by decide) (by decide) (fun hc9 => ?_) (fun hc9 => absurd hc9 (by decide))
          refine C.iload_n dX2_readItem_25 rfl ?_
          refine C.bi dX2_readItem_26 (by decide) ?_
          refine C.icmp_ltI (tgt := 33) dX2_readItem_28 (by decide) (by omega) (by omega) (fun hc28 => ?_) (fun hc28 => absurd hc28 (by omega))
          refine C.aload_n dX2_readItem_33 rfl ?_
          refine C.getf gf_X2_21 dX2_readItem_34 h3L h3f rfl ?_
          refine C.ic dX2_readItem_37 ?_
          refine C.callV (M2) cw_X6_take ml_X2_54 im_X6_take sl_X6_take dX2_readItem_38 h6L h6f rfl rfl (by omega) (by omega) (by omega) (Nat.le_of_ble_eq_true rfl) rfl (fun r38 L38 f38 hR38 => ?_)
          obtain ⟨rfl, rfl, -, hf8⟩ := hR38
          rw [hf8 rfl]
          refine C.if_eqI (tgt := 55) dX2_readItem_41 (by decide) (by decide) (fun hc41 => ?_) (fun hc41 => absurd hc41 (by decide))
          refine C.aload_n dX2_readItem_55 rfl ?_
          refine C.getf gf_X2_21 dX2_readItem_56 h3L h3f rfl ?_
          refine C.bi dX2_readItem_59 (by decide) ?_
          refine C.callV (M3) cw_X6_take ml_X2_54 im_X6_take sl_X6_take dX2_readItem_61 h6L h6f rfl rfl (by omega) (by omega) (by omega) (Nat.le_of_ble_eq_true rfl) rfl (fun r61 L61 f61 hR61 => ?_)
          obtain ⟨rfl, rfl, -, hf7⟩ := hR61
          rw [hf7 rfl]
          refine C.if_neI (tgt := 69) dX2_readItem_64 (by decide) (by decide) (fun hc64 => absurd hc64 (by decide)) (fun hc64 => ?_)
          refine C.null dX2_readItem_67 ?_
          refine C.aretN rfl (Or.inl ⟨_, rfl⟩) dX2_readItem_68 (by omega) (by omega) ⟨FE.rf, i, rfl, h.re⟩
          skip
        | true =>
          rw [hs] at M3
          have hsl := sgP_lt hs
          have hIB : itemB tb e (some (itemP tb e k)) p = bnd (allOf tb e zOr .or (allOf tb e zAnd .and (itemP tb e k)) (bl tb e p + 1)) (fun t p1 => if sgP tb e p1 41 then .inl (t, bl tb e p1 + 1) else .inr (bl tb e p1)) := by unfold itemB; rw [hs]; rfl
          rw [hIB]
          have hAll := r_all (ih (dp + 1) (by omega)) (itemP_rd tb e k) (by omega) (by omega)
          have hCd := r_cond hAll (allOf_rd (itemP_rd tb e k) (by decide) mkA_rd) (by omega) (by omega)
          have hcr := allOf_rd (tb := tb) (allOf_rd (tb := tb) (itemP_rd tb e k) (zs := zAnd) (by decide) mkA_rd) (zs := zOr) (by decide) mkO_rd (bl tb e p + 1) (by omega)
          obtain ⟨y1, y2⟩ := hcr
          cases hq : allOf tb e zOr .or (allOf tb e zAnd .and (itemP tb e k)) (bl tb e p + 1) with
          | inr b0 =>
            have := y2 b0 hq
            rw [bnd_r]
            have e1 : rcC (.inr b0) (bl tb e p + 1) = b0 - (bl tb e p + 1) := rfl
            have e2 : rcS (.inr b0) (bl tb e p + 1) = 15 * (b0 - (bl tb e p + 1)) := rfl
            have e3 : rcC (.inr b0) p = b0 - p := rfl
            have e4 : rcS (.inr b0) p = 15 * (b0 - p) := rfl
            refine AM.of (by decide +kernel) (by simp [Value.category]) (Nat.le_of_ble_eq_true rfl) false (fun h => by cases h) (fun X C => ?_)
            refine C.aload_n dX2_readItem_0 rfl ?_
            refine C.getf gf_X2_21 dX2_readItem_1 h3L h3f rfl ?_
            refine C.bi dX2_readItem_4 (by decide) ?_
            refine C.callV (M1) cw_X6_take ml_X2_54 im_X6_take sl_X6_take dX2_readItem_6 h6L h6f rfl rfl (by omega) (by omega) (by omega) (Nat.le_of_ble_eq_true rfl) rfl (fun r6 L6 f6 hR6 => ?_)
            obtain ⟨rfl, rfl, -, hf9⟩ := hR6
            rw [hf9 rfl]
            refine C.if_eqI (tgt := 25) dX2_readItem_9 (by decide) (by decide) (fun hc9 => ?_) (fun hc9 => absurd hc9 (by decide))
            refine C.iload_n dX2_readItem_25 rfl ?_
            refine C.bi dX2_readItem_26 (by decide) ?_
            refine C.icmp_ltI (tgt := 33) dX2_readItem_28 (by decide) (by omega) (by omega) (fun hc28 => ?_) (fun hc28 => absurd hc28 (by omega))
            refine C.aload_n dX2_readItem_33 rfl ?_
            refine C.getf gf_X2_21 dX2_readItem_34 h3L h3f rfl ?_
            refine C.ic dX2_readItem_37 ?_
            refine C.callV (M2) cw_X6_take ml_X2_54 im_X6_take sl_X6_take dX2_readItem_38 h6L h6f rfl rfl (by omega) (by omega) (by omega) (Nat.le_of_ble_eq_true rfl) rfl (fun r38 L38 f38 hR38 => ?_)
            obtain ⟨rfl, rfl, -, hf8⟩ := hR38
            rw [hf8 rfl]
            refine C.if_eqI (tgt := 55) dX2_readItem_41 (by decide) (by decide) (fun hc41 => ?_) (fun hc41 => absurd hc41 (by decide))
            refine C.aload_n dX2_readItem_55 rfl ?_
            refine C.getf gf_X2_21 dX2_readItem_56 h3L h3f rfl ?_
            refine C.bi dX2_readItem_59 (by decide) ?_
            refine C.callV (M3) cw_X6_take ml_X2_54 im_X6_take sl_X6_take dX2_readItem_61 h6L h6f rfl rfl (by omega) (by omega) (by omega) (Nat.le_of_ble_eq_true rfl) rfl (fun r61 L61 f61 hR61 => ?_)
            obtain ⟨rfl, rfl, hf7, -⟩ := hR61
            obtain ⟨hRS2, hFE2⟩ := hf7 rfl
            refine C.if_neI (tgt := 69) dX2_readItem_64 (by decide) (by decide) (fun hc64 => ?_) (fun hc64 => absurd hc64 (by decide))
            refine C.aload_n dX2_readItem_69 rfl ?_
            refine C.iload_n dX2_readItem_70 rfl ?_
            refine C.ic dX2_readItem_71 ?_
            refine C.iaddI dX2_readItem_72 ?_
            skip
            obtain ⟨h3L2, h3f2⟩ := hRS2.o3
            have M4 := hCd (d - 1) L61 f61 (i + 1) _ (by omega) hRS2
            rw [hq] at M4
            refine C.callV (M4) cw_X2_readCond ml_X2_65 im_X2_readCond sl_X2_readCond dX2_readItem_73 h3L2 h3f2 rfl rfl (by omega) (by omega) (by omega) (Nat.le_of_ble_eq_true rfl) rfl (fun r73 L73 f73 hR73 => ?_)
            obtain ⟨hFE3, i3, rfl, hE3⟩ := hR73
            refine C.astore_nN dX2_readItem_76 (by decide) rfl ?_
            refine C.aload_nN dX2_readItem_77 rfl ?_
            refine C.ifnullN (tgt := 97) dX2_readItem_78 (by decide) ?_
            refine C.null dX2_readItem_97 ?_
            refine C.aretN rfl (Or.inl ⟨_, rfl⟩) dX2_readItem_98 (by omega) (by omega) ⟨hFE2.tr hFE3, i3, rfl, hE3⟩
            skip
          | inl q =>
            obtain ⟨t, p1⟩ := q
            obtain ⟨z1, z2, z3, z4, z5⟩ := y1 t p1 hq
            rw [bnd_l]
            have hb1 := bl_ge tb e p1
            have e1 : rcC (.inl (t, p1)) (bl tb e p + 1) = p1 - (bl tb e p + 1) - 2 := rfl
            have e2 : rcS (.inl (t, p1)) (bl tb e p + 1) = 15 * (p1 - (bl tb e p + 1)) - 60 := rfl
            have e3 : rcC (.inl (t, bl tb e p1 + 1)) p = bl tb e p1 + 1 - p - 2 := rfl
            have e4 : rcS (.inl (t, bl tb e p1 + 1)) p = 15 * (bl tb e p1 + 1 - p) - 60 := rfl
            have e5 : rcC (.inr (bl tb e p1)) p = bl tb e p1 - p := rfl
            have e6' : rcS (.inr (bl tb e p1)) p = 15 * (bl tb e p1 - p) := rfl
            cases hs1 : sgP tb e p1 41 with
            | true =>
              rw [if_pos rfl]
              refine AM.of (by decide +kernel) (by simp [Value.category]) (Nat.le_of_ble_eq_true rfl) false (fun h => by cases h) (fun X C => ?_)
              refine C.aload_n dX2_readItem_0 rfl ?_
              refine C.getf gf_X2_21 dX2_readItem_1 h3L h3f rfl ?_
              refine C.bi dX2_readItem_4 (by decide) ?_
              refine C.callV (M1) cw_X6_take ml_X2_54 im_X6_take sl_X6_take dX2_readItem_6 h6L h6f rfl rfl (by omega) (by omega) (by omega) (Nat.le_of_ble_eq_true rfl) rfl (fun r6 L6 f6 hR6 => ?_)
              obtain ⟨rfl, rfl, -, hf9⟩ := hR6
              rw [hf9 rfl]
              refine C.if_eqI (tgt := 25) dX2_readItem_9 (by decide) (by decide) (fun hc9 => ?_) (fun hc9 => absurd hc9 (by decide))
              refine C.iload_n dX2_readItem_25 rfl ?_
              refine C.bi dX2_readItem_26 (by decide) ?_
              refine C.icmp_ltI (tgt := 33) dX2_readItem_28 (by decide) (by omega) (by omega) (fun hc28 => ?_) (fun hc28 => absurd hc28 (by omega))
              refine C.aload_n dX2_readItem_33 rfl ?_
              refine C.getf gf_X2_21 dX2_readItem_34 h3L h3f rfl ?_
              refine C.ic dX2_readItem_37 ?_
              refine C.callV (M2) cw_X6_take ml_X2_54 im_X6_take sl_X6_take dX2_readItem_38 h6L h6f rfl rfl (by omega) (by omega) (by omega) (Nat.le_of_ble_eq_true rfl) rfl (fun r38 L38 f38 hR38 => ?_)
              obtain ⟨rfl, rfl, -, hf8⟩ := hR38
              rw [hf8 rfl]
              refine C.if_eqI (tgt := 55) dX2_readItem_41 (by decide) (by decide) (fun hc41 => ?_) (fun hc41 => absurd hc41 (by decide))
              refine C.aload_n dX2_readItem_55 rfl ?_
              refine C.getf gf_X2_21 dX2_readItem_56 h3L h3f rfl ?_
              refine C.bi dX2_readItem_59 (by decide) ?_
              refine C.callV (M3) cw_X6_take ml_X2_54 im_X6_take sl_X6_take dX2_readItem_61 h6L h6f rfl rfl (by omega) (by omega) (by omega) (Nat.le_of_ble_eq_true rfl) rfl (fun r61 L61 f61 hR61 => ?_)
              obtain ⟨rfl, rfl, hf7, -⟩ := hR61
              obtain ⟨hRS2, hFE2⟩ := hf7 rfl
              refine C.if_neI (tgt := 69) dX2_readItem_64 (by decide) (by decide) (fun hc64 => ?_) (fun hc64 => absurd hc64 (by decide))
              refine C.aload_n dX2_readItem_69 rfl ?_
              refine C.iload_n dX2_readItem_70 rfl ?_
              refine C.ic dX2_readItem_71 ?_
              refine C.iaddI dX2_readItem_72 ?_
              skip
              obtain ⟨h3L2, h3f2⟩ := hRS2.o3
              have M4 := hCd (d - 1) L61 f61 (i + 1) _ (by omega) hRS2
              rw [hq] at M4
              refine C.callV (M4) cw_X2_readCond ml_X2_65 im_X2_readCond sl_X2_readCond dX2_readItem_73 h3L2 h3f2 rfl rfl (by omega) (by omega) (by omega) (Nat.le_of_ble_eq_true rfl) rfl (fun r73 L73 f73 hR73 => ?_)
              obtain ⟨hFE3, i3, k3, rfl, hRS3, hC3, hi3⟩ := hR73
              refine C.astore_n dX2_readItem_76 (by decide) rfl ?_
              refine C.aload_n dX2_readItem_77 rfl ?_
              refine C.ifnull dX2_readItem_78 ?_
              skip
              obtain ⟨h3L3, h3f3⟩ := hRS3.o3
              obtain ⟨h6L3, h6f3⟩ := hRS3.o6
              have M5 : AM yX6_take cX6_take 3 (some .boolean) (d - 1) 0 0 [.ref 6, .int (iI 19)] L73 f73 (TkPo tb e ts c a L73 f73 i3 (sgP tb e p1 41) (bl tb e p1 + 1)) := r_sign (w := 19) (Or.inr (Or.inl ⟨rfl, rfl⟩)) hRS3
              rw [hs1] at M5
              refine C.aload_n dX2_readItem_81 rfl ?_
              refine C.getf gf_X2_21 dX2_readItem_82 h3L3 h3f3 rfl ?_
              refine C.bi dX2_readItem_85 (by decide) ?_
              refine C.callV (M5) cw_X6_take ml_X2_54 im_X6_take sl_X6_take dX2_readItem_87 h6L3 h6f3 rfl rfl (by omega) (by omega) (by omega) (Nat.le_of_ble_eq_true rfl) rfl (fun r87 L87 f87 hR87 => ?_)
              obtain ⟨rfl, rfl, hf6, -⟩ := hR87
              obtain ⟨hRS4, hFE4⟩ := hf6 rfl
              refine C.if_eqI (tgt := 97) dX2_readItem_90 (by decide) (by decide) (fun hc90 => absurd hc90 (by decide)) (fun hc90 => ?_)
              refine C.aload_n dX2_readItem_93 rfl ?_
              refine C.goto (tgt := 98) dX2_readItem_94 (by decide) ?_
              refine C.aret rfl (Or.inl ⟨_, rfl⟩) dX2_readItem_98 (by omega) (by omega) ⟨(hFE2.tr hFE3).tr hFE4, i3 + 1, k3, rfl, hRS4, CAt.keep (hFE4.p e6) _ (CAt.mono _ (by omega) hC3), by omega⟩
              skip
            | false =>
              rw [if_neg (by decide)]
              refine AM.of (by decide +kernel) (by simp [Value.category]) (Nat.le_of_ble_eq_true rfl) false (fun h => by cases h) (fun X C => ?_)
              refine C.aload_n dX2_readItem_0 rfl ?_
              refine C.getf gf_X2_21 dX2_readItem_1 h3L h3f rfl ?_
              refine C.bi dX2_readItem_4 (by decide) ?_
              refine C.callV (M1) cw_X6_take ml_X2_54 im_X6_take sl_X6_take dX2_readItem_6 h6L h6f rfl rfl (by omega) (by omega) (by omega) (Nat.le_of_ble_eq_true rfl) rfl (fun r6 L6 f6 hR6 => ?_)
              obtain ⟨rfl, rfl, -, hf9⟩ := hR6
              rw [hf9 rfl]
              refine C.if_eqI (tgt := 25) dX2_readItem_9 (by decide) (by decide) (fun hc9 => ?_) (fun hc9 => absurd hc9 (by decide))
              refine C.iload_n dX2_readItem_25 rfl ?_
              refine C.bi dX2_readItem_26 (by decide) ?_
              refine C.icmp_ltI (tgt := 33) dX2_readItem_28 (by decide) (by omega) (by omega) (fun hc28 => ?_) (fun hc28 => absurd hc28 (by omega))
              refine C.aload_n dX2_readItem_33 rfl ?_
              refine C.getf gf_X2_21 dX2_readItem_34 h3L h3f rfl ?_
              refine C.ic dX2_readItem_37 ?_
              refine C.callV (M2) cw_X6_take ml_X2_54 im_X6_take sl_X6_take dX2_readItem_38 h6L h6f rfl rfl (by omega) (by omega) (by omega) (Nat.le_of_ble_eq_true rfl) rfl (fun r38 L38 f38 hR38 => ?_)
              obtain ⟨rfl, rfl, -, hf8⟩ := hR38
              rw [hf8 rfl]
              refine C.if_eqI (tgt := 55) dX2_readItem_41 (by decide) (by decide) (fun hc41 => ?_) (fun hc41 => absurd hc41 (by decide))
              refine C.aload_n dX2_readItem_55 rfl ?_
              refine C.getf gf_X2_21 dX2_readItem_56 h3L h3f rfl ?_
              refine C.bi dX2_readItem_59 (by decide) ?_
              refine C.callV (M3) cw_X6_take ml_X2_54 im_X6_take sl_X6_take dX2_readItem_61 h6L h6f rfl rfl (by omega) (by omega) (by omega) (Nat.le_of_ble_eq_true rfl) rfl (fun r61 L61 f61 hR61 => ?_)
              obtain ⟨rfl, rfl, hf7, -⟩ := hR61
              obtain ⟨hRS2, hFE2⟩ := hf7 rfl
              refine C.if_neI (tgt := 69) dX2_readItem_64 (by decide) (by decide) (fun hc64 => ?_) (fun hc64 => absurd hc64 (by decide))
              refine C.aload_n dX2_readItem_69 rfl ?_
              refine C.iload_n dX2_readItem_70 rfl ?_
              refine C.ic dX2_readItem_71 ?_
              refine C.iaddI dX2_readItem_72 ?_
              skip
              obtain ⟨h3L2, h3f2⟩ := hRS2.o3
              have M4 := hCd (d - 1) L61 f61 (i + 1) _ (by omega) hRS2
              rw [hq] at M4
              refine C.callV (M4) cw_X2_readCond ml_X2_65 im_X2_readCond sl_X2_readCond dX2_readItem_73 h3L2 h3f2 rfl rfl (by omega) (by omega) (by omega) (Nat.le_of_ble_eq_true rfl) rfl (fun r73 L73 f73 hR73 => ?_)
              obtain ⟨hFE3, i3, k3, rfl, hRS3, hC3, hi3⟩ := hR73
              refine C.astore_n dX2_readItem_76 (by decide) rfl ?_
              refine C.aload_n dX2_readItem_77 rfl ?_
              refine C.ifnull dX2_readItem_78 ?_
              skip
              obtain ⟨h3L3, h3f3⟩ := hRS3.o3
              obtain ⟨h6L3, h6f3⟩ := hRS3.o6
              have M5 : AM yX6_take cX6_take 3 (some .boolean) (d - 1) 0 0 [.ref 6, .int (iI 19)] L73 f73 (TkPo tb e ts c a L73 f73 i3 (sgP tb e p1 41) (bl tb e p1 + 1)) := r_sign (w := 19) (Or.inr (Or.inl ⟨rfl, rfl⟩)) hRS3
              rw [hs1] at M5
              refine C.aload_n dX2_readItem_81 rfl ?_
              refine C.getf gf_X2_21 dX2_readItem_82 h3L3 h3f3 rfl ?_
              refine C.bi dX2_readItem_85 (by decide) ?_
              refine C.callV (M5) cw_X6_take ml_X2_54 im_X6_take sl_X6_take dX2_readItem_87 h6L3 h6f3 rfl rfl (by omega) (by omega) (by omega) (Nat.le_of_ble_eq_true rfl) rfl (fun r87 L87 f87 hR87 => ?_)
              obtain ⟨rfl, rfl, -, hf6⟩ := hR87
              rw [hf6 rfl]
              refine C.if_eqI (tgt := 97) dX2_readItem_90 (by decide) (by decide) (fun hc90 => ?_) (fun hc90 => absurd hc90 (by decide))
              refine C.null dX2_readItem_97 ?_
              refine C.aretN rfl (Or.inl ⟨_, rfl⟩) dX2_readItem_98 (by omega) (by omega) ⟨hFE2.tr hFE3, i3, rfl, hRS3.re⟩
              skip
theorem r_condP (tb : Nat → Int) (e : Nat) (ts : List (Int × Int × Int)) (c : SF) (a : SA) : CdC tb e ts c a 0 27 160 (condP tb e 12) := fun d L f i p hd h => r_cond (r_all (r_item tb e ts c a 12 0 rfl) (itemP_rd tb e 12) (by omega) (by omega)) (allOf_rd (itemP_rd tb e 12) (by decide) mkA_rd) (by omega) (by omega) d L f i p (by omega) h
theorem condP_rd (tb : Nat → Int) (e : Nat) : Rd e (condP tb e 12) := allOf_rd (allOf_rd (itemP_rd tb e 12) (by decide) mkA_rd) (by decide) mkO_rd
end RDI
