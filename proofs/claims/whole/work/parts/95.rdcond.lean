/-! conditions read by the class -/
def rcC (res : RR) (p : Nat) : Nat := match res with
  | .inl q => q.2 - p - 2
  | .inr b => b - p
def rcS (res : RR) (p : Nat) : Nat := match res with
  | .inl q => 15 * (q.2 - p) - 60
  | .inr b => 15 * (b - p)
def RcPo (tb : Nat → Int) (e : Nat) (ts : List (Int × Int × Int)) (c : SF) (a : SA) (L : List Nat) (f : Nat → AC) (i D : Nat) (res : RR) : AT := fun r L' f' => FE [6] L f L' f' ∧ (match res with
  | .inl q => ∃ i' k, r = some (.ref k) ∧ RS tb e ts c a L' f' i' q.2 ∧ CAt L' f' D k q.1 ∧ i < i'
  | .inr b => ∃ i', r = some .null ∧ RE e ts c a L' f' i' b)
def ItC (tb : Nat → Int) (e : Nat) (ts : List (Int × Int × Int)) (c : SF) (a : SA) (dp D d0 : Nat) (F : Nat → RR) : Prop := ∀ (d : Nat) (L : List Nat) (f : Nat → AC) (i p : Nat), d0 ≤ d → RS tb e ts c a L f i p → AM yX2_readItem cX2_readItem 3 (some (.object "PlainWords$Cond")) d (rcC (F p) p) (rcS (F p) p) [.ref 3, .int (iI dp)] L f (RcPo tb e ts c a L f i D (F p))
def AlC (tb : Nat → Int) (e : Nat) (ts : List (Int × Int × Int)) (c : SF) (a : SA) (dp D d0 : Nat) (F : Nat → RR) : Prop := ∀ (d : Nat) (L : List Nat) (f : Nat → AC) (i p : Nat), d0 ≤ d → RS tb e ts c a L f i p → AM yX2_readAll cX2_readAll 4 (some (.object "PlainWords$Cond")) d (rcC (F p) p) (rcS (F p) p) [.ref 3, .int (iI dp)] L f (RcPo tb e ts c a L f i D (F p))
def CdC (tb : Nat → Int) (e : Nat) (ts : List (Int × Int × Int)) (c : SF) (a : SA) (dp D d0 : Nat) (F : Nat → RR) : Prop := ∀ (d : Nat) (L : List Nat) (f : Nat → AC) (i p : Nat), d0 ≤ d → RS tb e ts c a L f i p → AM yX2_readCond cX2_readCond 4 (some (.object "PlainWords$Cond")) d (rcC (F p) p) (rcS (F p) p) [.ref 3, .int (iI dp)] L f (RcPo tb e ts c a L f i D (F p))
theorem JAt.c {L : List Nat} {f : Nat → AC} {D q : Nat} {kd : Int} {t : TT} (h : JAt L f D kd q t) : CAt L f (D + 1) q t := by
  unfold JAt at h
  split at h
  · exact h
  · exact CAt.mono D (by omega) h
theorem JAt.keep {L L' : List Nat} {f f' : Nat → AC} {D q : Nat} {kd : Int} {t : TT} (h : JAt L f D kd q t) (hF : Fp L f L' f') : JAt L' f' D kd q t := CAt.keep hF _ h
theorem e6 : ∀ q ∈ [6], q < 2000 := fun q hq => by rw [List.mem_singleton.mp hq]; omega
theorem seq_room {tb : Nat → Int} {e p : Nat} {zs : List Int} {mk : TT → TT → TT} {F : Nat → RR} {RES : RR} (hR : Rd e F) (hz : 2 ≤ zs.length) (hmk : ∀ a b, isT a → isT b → isT (mk a b) ∧ lvs (mk a b) = lvs a + lvs b ∧ nd (mk a b) = nd a + nd b + 1) {n : Nat} {t : TT} {p2 : Nat} (h1 : p2 ≤ e) (h2 : p + 5 ≤ p2) (h3 : isT t) (h4 : 5 * lvs t + p ≤ p2) (h5 : 3 * nd t + 1 + p ≤ p2) (h : seqF tb e zs mk F n t p2 = RES) : p2 ≤ p + 2 + rcC RES p ∧ 15 * p2 ≤ 15 * p + 60 + rcS RES p := by
  obtain ⟨i1, i2⟩ := seqF_rd (tb := tb) hR hz hmk n t p2 p h1 h2 h3 h4 h5
  cases RES with
  | inl q =>
    have := i1 q.1 q.2 h
    show p2 ≤ p + 2 + (q.2 - p - 2) ∧ 15 * p2 ≤ 15 * p + 60 + (15 * (q.2 - p) - 60)
    omega
  | inr b =>
    have := i2 b h
    show p2 ≤ p + 2 + (b - p) ∧ 15 * p2 ≤ 15 * p + 60 + 15 * (b - p)
    omega
theorem RS.lt {tb : Nat → Int} {e i p : Nat} {ts : List (Int × Int × Int)} {c : SF} {a : SA} {L : List Nat} {f : Nat → AC} (h : RS tb e ts c a L f i p) : i ≤ ts.length ∧ ts.length ≤ 400 ∧ p ≤ e ∧ e ≤ 400 := ⟨h.2.2.1.2.2.2.2.2, h.2.2.1.1.2, h.2.2.2.2.2, h.2.2.1.2.2.2.1.2⟩
theorem RS.has {tb : Nat → Int} {e i p w : Nat} {ts : List (Int × Int × Int)} {c : SF} {a : SA} {L : List Nat} {f : Nat → AC} (hw : w < 16) (h : RS tb e ts c a L f i p) (hp : psP tb e p (zW.getD w []) = true) : i < ts.length := by
  have hb := (tk_is hw h.2.2.2.2).1
  rw [hp] at hb
  unfold tkIs at hb
  cases hti : ts[i]? with
  | none => rw [hti] at hb; cases hb
  | some t => exact (List.getElem?_eq_some_iff.mp hti).1
theorem bnd_r (b : Nat) (k : TT → Nat → RR) : bnd (.inr b) k = .inr b := rfl
theorem bnd_l (t : TT) (p : Nat) (k : TT → Nat → RR) : bnd (.inl (t, p)) k = k t p := rfl
theorem c_ofCaseN {d : Nat} {L : List Nat} {f : Nat → AC} : AM yX0_ofCase cX0_ofCase 1 (some (.object "PlainWords$Cond")) d 0 0 [.int (iI (-1))] L f (SP (some .null) L f) := by
  refine AM.of (by decide +kernel) (by simp [Value.category]) (Nat.le_of_ble_eq_true rfl) false (fun h => by cases h) (fun X C => ?_)
  refine C.iload_n dX0_ofCase_0 rfl ?_
  refine C.ic dX0_ofCase_1 ?_
  refine C.icmp_neI (tgt := 9) dX0_ofCase_2 (by decide) (by decide) (by decide) (fun h => absurd rfl h) (fun _ => ?_)
  refine C.null dX0_ofCase_5 ?_
  refine C.goto (tgt := 17) dX0_ofCase_6 (by decide) ?_
  exact C.aretN rfl (Or.inl ⟨_, rfl⟩) dX0_ofCase_17 (Nat.le_refl _) (Nat.le_refl _) ⟨rfl, rfl, rfl⟩
section RDC
variable {tb : Nat → Int} {e : Nat} {ts : List (Int × Int × Int)} {c : SF} {a : SA} {dp D d0 : Nat} {F : Nat → RR}
set_option maxRecDepth 20000 in
set_option maxHeartbeats 4000000 in
theorem r_all (hF : ItC tb e ts c a dp D d0 F) (hR : Rd e F) (hd0 : 6 ≤ d0) (hdp : dp ≤ 12) : AlC tb e ts c a dp (D + 1) (d0 + 1) (allOf tb e zAnd .and F) := by
  intro d L f i p hd h
  have hl0 := h.lt
  have M0 := hF (d - 1) L f i p (by omega) h
  obtain ⟨g1, g2⟩ := hR p hl0.2.2.1
  generalize hRES : allOf tb e zAnd .and F p = RES
  unfold allOf at hRES
  obtain ⟨h3L, h3f⟩ := h.o3
  cases hq : F p with
  | inr b =>
    rw [hq] at M0 hRES
    rw [bnd_r] at hRES
    subst hRES
    refine AM.of (by decide +kernel) (by simp [Value.category]) (Nat.le_of_ble_eq_true rfl) false (fun h => by cases h) (fun X C => ?_)
    refine C.aload_n dX2_readAll_0 rfl ?_
    refine C.iload_n dX2_readAll_1 rfl ?_
    refine C.callV (M0) cw_X2_readItem ml_X2_133 im_X2_readItem sl_X2_readItem dX2_readAll_2 h3L h3f rfl rfl (by omega) (by omega) (by omega) (Nat.le_of_ble_eq_true rfl) rfl (fun r2 L2 f2 hR2 => ?_)
    obtain ⟨hFE, i', rfl, hE⟩ := hR2
    refine C.astore_nN dX2_readAll_5 (by decide) rfl ?_
    refine C.ic dX2_readAll_6 ?_
    refine C.istore_n dX2_readAll_7 (by decide) rfl ?_
    refine C.iload_n dX2_readAll_8 rfl ?_
    refine C.si dX2_readAll_9 (by decide) ?_
    refine C.icmp_geI (tgt := 48) dX2_readAll_12 (by decide) (by decide) (by decide) (fun hc12 => absurd hc12 (by decide)) (fun hc12 => ?_)
    refine C.aload_nN dX2_readAll_15 rfl ?_
    refine C.ifnullN (tgt := 48) dX2_readAll_16 (by decide) ?_
    refine C.aload_nN dX2_readAll_48 rfl ?_
    refine C.aretN rfl (Or.inl ⟨_, rfl⟩) dX2_readAll_49 (by omega) (by omega) ⟨hFE, i', rfl, hE⟩
    skip
  | inl q =>
    obtain ⟨t, p1⟩ := q
    rw [hq] at M0 hRES
    rw [bnd_l] at hRES
    obtain ⟨a1, a2, a3, a4, a5⟩ := g1 t p1 hq
    refine AM.of (by decide +kernel) (by simp [Value.category]) (Nat.le_of_ble_eq_true rfl) false (fun h => by cases h) (fun X C => ?_)
    have loop : ∀ (n : Nat) (t : TT) (p1 i1 j k ce sl : Nat) (L1 : List Nat) (f1 : Nat → AC), e - p1 < n → seqF tb e zAnd .and F n t p1 = RES → p1 ≤ e → p + 5 ≤ p1 → isT t → 5 * lvs t + p ≤ p1 → 3 * nd t + 1 + p ≤ p1 → RS tb e ts c a L1 f1 i1 p1 → JAt L1 f1 D 1 k t → FE [6] L f L1 f1 → i < i1 → j ≤ i1 → ce + 2 + p ≤ p1 → sl + 60 + 15 * p ≤ 15 * p1 → X ce sl L1 f1 8 [some (.ref 3), some (.int (iI dp)), some (.ref k), some (.int (iI j))] [] := by
      intro n
      induction n with
      | zero => intro t p1 i1 j k ce sl L1 f1 hn; omega
      | succ n ih =>
        intro t p1 i1 j k ce sl L1 f1 hn hs b1 b2 b3 b4 b5 hRS hJ hFE hi hj hce hsl
        have hlt := hRS.lt
        have M1 : AM yX6_take cX6_take 3 (some .boolean) (d - 1) 0 0 [.ref 6, .int (iI 7)] L1 f1 (TkPo tb e ts c a L1 f1 i1 (psP tb e p1 zAnd) (wend tb e (bl tb e p1))) := r_take (w := 7) (by omega) hRS
        obtain ⟨h3L1, h3f1⟩ := hRS.o3
        obtain ⟨h6L1, h6f1⟩ := hRS.o6
        obtain ⟨m1, m2⟩ := seq_room hR (by decide) mkA_rd b1 b2 b3 b4 b5 hs
        have hb := bl_ge tb e p1
        have hbe : bl tb e p1 ≤ e := bl_le b1
        unfold seqF at hs
        cases hps : psP tb e p1 zAnd with
        | false =>
          rw [hps] at M1 hs
          rw [if_neg (by decide)] at hs
          subst hs
          refine C.iload_n dX2_readAll_8 rfl ?_
          refine C.si dX2_readAll_9 (by decide) ?_
          refine C.icmp_geI (tgt := 48) dX2_readAll_12 (by decide) (by omega) (by omega) (fun hc12 => ?_) (fun hc12 => ?_)
          · refine C.aload_n dX2_readAll_48 rfl ?_
            refine C.aret rfl (Or.inl ⟨_, rfl⟩) dX2_readAll_49 (by omega) (by omega) ⟨hFE, i1, k, rfl, hRS.bl, hJ.c, hi⟩
            skip
          · refine C.aload_n dX2_readAll_15 rfl ?_
            refine C.ifnull dX2_readAll_16 ?_
            refine C.aload_n dX2_readAll_19 rfl ?_
            refine C.getf gf_X2_21 dX2_readAll_20 h3L1 h3f1 rfl ?_
            refine C.bi dX2_readAll_23 (by decide) ?_
            refine C.callV (M1) cw_X6_take ml_X2_54 im_X6_take sl_X6_take dX2_readAll_25 h6L1 h6f1 rfl rfl (by omega) (by omega) (by omega) (Nat.le_of_ble_eq_true rfl) rfl (fun r25 L25 f25 hR25 => ?_)
            obtain ⟨rfl, rfl, -, hf9⟩ := hR25
            rw [hf9 rfl]
            refine C.if_eqI (tgt := 48) dX2_readAll_28 (by decide) (by decide) (fun hc28 => ?_) (fun hc28 => absurd hc28 (by decide))
            refine C.aload_n dX2_readAll_48 rfl ?_
            refine C.aret rfl (Or.inl ⟨_, rfl⟩) dX2_readAll_49 (by omega) (by omega) ⟨hFE, i1, k, rfl, hRS.bl, hJ.c, hi⟩
            skip
        | true =>
          have hix := hRS.has (w := 7) (by omega) hps
          rw [hps] at M1 hs
          rw [if_pos rfl] at hs
          have hpl := psP_len hps
          change wend tb e (bl tb e p1) = bl tb e p1 + 3 at hpl
          refine C.iload_n dX2_readAll_8 rfl ?_
          refine C.si dX2_readAll_9 (by decide) ?_
          refine C.icmp_geI (tgt := 48) dX2_readAll_12 (by decide) (by omega) (by omega) (fun hc12 => absurd hc12 (by omega)) (fun hc12 => ?_)
          refine C.aload_n dX2_readAll_15 rfl ?_
          refine C.ifnull dX2_readAll_16 ?_
          refine C.aload_n dX2_readAll_19 rfl ?_
          refine C.getf gf_X2_21 dX2_readAll_20 h3L1 h3f1 rfl ?_
          refine C.bi dX2_readAll_23 (by decide) ?_
          refine C.callV (M1) cw_X6_take ml_X2_54 im_X6_take sl_X6_take dX2_readAll_25 h6L1 h6f1 rfl rfl (by omega) (by omega) (by omega) (Nat.le_of_ble_eq_true rfl) rfl (fun r25 L25 f25 hR25 => ?_)
          obtain ⟨rfl, rfl, hf9, -⟩ := hR25
          obtain ⟨hRS2, hFE2⟩ := hf9 rfl
          refine C.if_eqI (tgt := 48) dX2_readAll_28 (by decide) (by decide) (fun hc28 => absurd hc28 (by decide)) (fun hc28 => ?_)
          refine C.ic dX2_readAll_31 ?_
          refine C.aload_n dX2_readAll_32 rfl ?_
          refine C.aload_n dX2_readAll_33 rfl ?_
          refine C.iload_n dX2_readAll_34 rfl ?_
          skip
          obtain ⟨h3L2, h3f2⟩ := hRS2.o3
          have M2 := hF (d - 1) L25 f25 (i1 + 1) (wend tb e (bl tb e p1)) (by omega) hRS2
          have hwe : wend tb e (bl tb e p1) ≤ e := wend_le hbe
          obtain ⟨y1, y2⟩ := hR _ hwe
          cases hq2 : F (wend tb e (bl tb e p1)) with
          | inr b0 =>
            rw [hq2] at M2 hs
            rw [bnd_r] at hs
            subst hs
            have := y2 b0 hq2
            have e1 : rcC (.inr b0) (wend tb e (bl tb e p1)) = b0 - wend tb e (bl tb e p1) := rfl
            have e2 : rcS (.inr b0) (wend tb e (bl tb e p1)) = 15 * (b0 - wend tb e (bl tb e p1)) := rfl
            have e3 : rcC (.inr b0) p = b0 - p := rfl
            have e4 : rcS (.inr b0) p = 15 * (b0 - p) := rfl
            refine C.callV (M2) cw_X2_readItem ml_X2_133 im_X2_readItem sl_X2_readItem dX2_readAll_35 h3L2 h3f2 rfl rfl (by omega) (by omega) (by omega) (Nat.le_of_ble_eq_true rfl) rfl (fun r35 L35 f35 hR35 => ?_)
            obtain ⟨hFE3, i3, rfl, hE3⟩ := hR35
            refine C.callS (c_joinedN (d := d - 1) (Or.inr ⟨⟨_, rfl⟩, rfl⟩)) cw_X0_joined ml_X2_129 sm_X0_joined dX2_readAll_38 rfl (by omega) (by omega) (by omega) (Nat.le_of_ble_eq_true rfl) rfl (fun r38 L38 f38 hR38 => ?_)
            obtain ⟨rfl, hL9, hf9⟩ := hR38
            rw [hL9, hf9]
            clear hL9 hf9
            refine C.astore_nN dX2_readAll_41 (by decide) rfl ?_
            refine C.iincI dX2_readAll_42 rfl (by decide) rfl ?_
            refine C.goto (tgt := 8) dX2_readAll_45 (by decide) ?_
            skip
            refine C.iload_n dX2_readAll_8 rfl ?_
            refine C.si dX2_readAll_9 (by decide) ?_
            refine C.icmp_geI (tgt := 48) dX2_readAll_12 (by decide) (by omega) (by omega) (fun hc12 => ?_) (fun hc12 => ?_)
            · refine C.aload_nN dX2_readAll_48 rfl ?_
              refine C.aretN rfl (Or.inl ⟨_, rfl⟩) dX2_readAll_49 (by omega) (by omega) ⟨(hFE.tr hFE2).tr hFE3, i3, rfl, hE3⟩
              skip
            · refine C.aload_nN dX2_readAll_15 rfl ?_
              refine C.ifnullN (tgt := 48) dX2_readAll_16 (by decide) ?_
              refine C.aload_nN dX2_readAll_48 rfl ?_
              refine C.aretN rfl (Or.inl ⟨_, rfl⟩) dX2_readAll_49 (by omega) (by omega) ⟨(hFE.tr hFE2).tr hFE3, i3, rfl, hE3⟩
              skip
          | inl q2 =>
            obtain ⟨t2, p2⟩ := q2
            rw [hq2] at M2 hs
            rw [bnd_l] at hs
            obtain ⟨z1, z2, z3, z4, z5⟩ := y1 t2 p2 hq2
            obtain ⟨k1, k2, k3⟩ := mkA_rd t t2 b3 z3
            obtain ⟨m3, m4⟩ := seq_room (p := p) (t := .and t t2) (mk := .and) hR (by decide) mkA_rd z2 (by omega) k1 (by omega) (by omega) hs
            have e1 : rcC (.inl (t2, p2)) (wend tb e (bl tb e p1)) = p2 - wend tb e (bl tb e p1) - 2 := rfl
            have e2 : rcS (.inl (t2, p2)) (wend tb e (bl tb e p1)) = 15 * (p2 - wend tb e (bl tb e p1)) - 60 := rfl
            have l1 := jL_lvs1 1 t
            have l2 := jL_lvs1 1 t2
            refine C.callV (M2) cw_X2_readItem ml_X2_133 im_X2_readItem sl_X2_readItem dX2_readAll_35 h3L2 h3f2 rfl rfl (by omega) (by omega) (by omega) (Nat.le_of_ble_eq_true rfl) rfl (fun r35 L35 f35 hR35 => ?_)
            obtain ⟨hFE3, i3, k3', rfl, hRS3, hC3, hi3⟩ := hR35
            skip
            have hJ3 : JAt L35 f35 D 1 k t := (hJ.keep (hFE2.p e6)).keep (hFE3.p e6)
            have M3 := c_joined (d := d - 1) (D := D) (kd := 1) (by omega) (Or.inr rfl) b3 z3 hJ3 (JAt.of hC3) (by omega)
            refine C.callS (M3) cw_X0_joined ml_X2_129 sm_X0_joined dX2_readAll_38 rfl (by omega) (by omega) (by omega) (Nat.le_of_ble_eq_true rfl) rfl (fun r38 L38 f38 hR38 => ?_)
            obtain ⟨k4, rfl, hC4, hF4⟩ := hR38
            change CAt _ _ _ _ (.and t t2) at hC4
            refine C.astore_n dX2_readAll_41 (by decide) rfl ?_
            refine C.iincI dX2_readAll_42 rfl (by decide) rfl ?_
            refine C.goto (tgt := 8) dX2_readAll_45 (by decide) ?_
            skip
            exact ih (.and t t2) p2 i3 (j + 1) k4 _ _ L38 f38 (by omega) hs z2 (by omega) k1 (by omega) (by omega) (hRS3.keep hF4) (by unfold JAt; rw [if_pos (show knd (.and t t2) = 1 from rfl)]; exact hC4) (((hFE.tr hFE2).tr hFE3).tr hF4.e) (by omega) (by omega) (by omega) (by omega)
    obtain ⟨m1, m2⟩ := seq_room hR (by decide) mkA_rd a2 a1 a3 a4 a5 hRES
    have e1 : rcC (.inl (t, p1)) p = p1 - p - 2 := rfl
    have e2 : rcS (.inl (t, p1)) p = 15 * (p1 - p) - 60 := rfl
    refine C.aload_n dX2_readAll_0 rfl ?_
    refine C.iload_n dX2_readAll_1 rfl ?_
    refine C.callV (M0) cw_X2_readItem ml_X2_133 im_X2_readItem sl_X2_readItem dX2_readAll_2 h3L h3f rfl rfl (by omega) (by omega) (by omega) (Nat.le_of_ble_eq_true rfl) rfl (fun r2 L2 f2 hR2 => ?_)
    obtain ⟨hFE, i', k, rfl, hRS, hC, hi⟩ := hR2
    refine C.astore_n dX2_readAll_5 (by decide) rfl ?_
    refine C.ic dX2_readAll_6 ?_
    refine C.istore_n dX2_readAll_7 (by decide) rfl ?_
    skip
    exact loop (e + 1) t p1 i' 0 k _ _ L2 f2 (by omega) hRES a2 a1 a3 a4 a5 hRS (JAt.of hC) hFE hi (by omega) (by omega) (by omega)
set_option maxRecDepth 20000 in
set_option maxHeartbeats 4000000 in
theorem r_cond (hF : AlC tb e ts c a dp D d0 F) (hR : Rd e F) (hd0 : 6 ≤ d0) (hdp : dp ≤ 12) : CdC tb e ts c a dp (D + 1) (d0 + 1) (allOf tb e zOr .or F) := by
  intro d L f i p hd h
  have hl0 := h.lt
  have M0 := hF (d - 1) L f i p (by omega) h
  obtain ⟨g1, g2⟩ := hR p hl0.2.2.1
  generalize hRES : allOf tb e zOr .or F p = RES
  unfold allOf at hRES
  obtain ⟨h3L, h3f⟩ := h.o3
  cases hq : F p with
  | inr b =>
    rw [hq] at M0 hRES
    rw [bnd_r] at hRES
    subst hRES
    refine AM.of (by decide +kernel) (by simp [Value.category]) (Nat.le_of_ble_eq_true rfl) false (fun h => by cases h) (fun X C => ?_)
    refine C.aload_n dX2_readCond_0 rfl ?_
    refine C.iload_n dX2_readCond_1 rfl ?_
    refine C.callV (M0) cw_X2_readAll ml_X2_122 im_X2_readAll sl_X2_readAll dX2_readCond_2 h3L h3f rfl rfl (by omega) (by omega) (by omega) (Nat.le_of_ble_eq_true rfl) rfl (fun r2 L2 f2 hR2 => ?_)
    obtain ⟨hFE, i', rfl, hE⟩ := hR2
    refine C.astore_nN dX2_readCond_5 (by decide) rfl ?_
    refine C.ic dX2_readCond_6 ?_
    refine C.istore_n dX2_readCond_7 (by decide) rfl ?_
    refine C.iload_n dX2_readCond_8 rfl ?_
    refine C.si dX2_readCond_9 (by decide) ?_
    refine C.icmp_geI (tgt := 48) dX2_readCond_12 (by decide) (by decide) (by decide) (fun hc12 => absurd hc12 (by decide)) (fun hc12 => ?_)
    refine C.aload_nN dX2_readCond_15 rfl ?_
    refine C.ifnullN (tgt := 48) dX2_readCond_16 (by decide) ?_
    refine C.aload_nN dX2_readCond_48 rfl ?_
    refine C.aretN rfl (Or.inl ⟨_, rfl⟩) dX2_readCond_49 (by omega) (by omega) ⟨hFE, i', rfl, hE⟩
    skip
  | inl q =>
    obtain ⟨t, p1⟩ := q
    rw [hq] at M0 hRES
    rw [bnd_l] at hRES
    obtain ⟨a1, a2, a3, a4, a5⟩ := g1 t p1 hq
    refine AM.of (by decide +kernel) (by simp [Value.category]) (Nat.le_of_ble_eq_true rfl) false (fun h => by cases h) (fun X C => ?_)
    have loop : ∀ (n : Nat) (t : TT) (p1 i1 j k ce sl : Nat) (L1 : List Nat) (f1 : Nat → AC), e - p1 < n → seqF tb e zOr .or F n t p1 = RES → p1 ≤ e → p + 5 ≤ p1 → isT t → 5 * lvs t + p ≤ p1 → 3 * nd t + 1 + p ≤ p1 → RS tb e ts c a L1 f1 i1 p1 → JAt L1 f1 D 0 k t → FE [6] L f L1 f1 → i < i1 → j ≤ i1 → ce + 2 + p ≤ p1 → sl + 60 + 15 * p ≤ 15 * p1 → X ce sl L1 f1 8 [some (.ref 3), some (.int (iI dp)), some (.ref k), some (.int (iI j))] [] := by
      intro n
      induction n with
      | zero => intro t p1 i1 j k ce sl L1 f1 hn; omega
      | succ n ih =>
        intro t p1 i1 j k ce sl L1 f1 hn hs b1 b2 b3 b4 b5 hRS hJ hFE hi hj hce hsl
        have hlt := hRS.lt
        have M1 : AM yX6_take cX6_take 3 (some .boolean) (d - 1) 0 0 [.ref 6, .int (iI 8)] L1 f1 (TkPo tb e ts c a L1 f1 i1 (psP tb e p1 zOr) (wend tb e (bl tb e p1))) := r_take (w := 8) (by omega) hRS
        obtain ⟨h3L1, h3f1⟩ := hRS.o3
        obtain ⟨h6L1, h6f1⟩ := hRS.o6
        obtain ⟨m1, m2⟩ := seq_room hR (by decide) mkO_rd b1 b2 b3 b4 b5 hs
        have hb := bl_ge tb e p1
        have hbe : bl tb e p1 ≤ e := bl_le b1
        unfold seqF at hs
        cases hps : psP tb e p1 zOr with
        | false =>
          rw [hps] at M1 hs
          rw [if_neg (by decide)] at hs
          subst hs
          refine C.iload_n dX2_readCond_8 rfl ?_
          refine C.si dX2_readCond_9 (by decide) ?_
          refine C.icmp_geI (tgt := 48) dX2_readCond_12 (by decide) (by omega) (by omega) (fun hc12 => ?_) (fun hc12 => ?_)
          · refine C.aload_n dX2_readCond_48 rfl ?_
            refine C.aret rfl (Or.inl ⟨_, rfl⟩) dX2_readCond_49 (by omega) (by omega) ⟨hFE, i1, k, rfl, hRS.bl, hJ.c, hi⟩
            skip
          · refine C.aload_n dX2_readCond_15 rfl ?_
            refine C.ifnull dX2_readCond_16 ?_
            refine C.aload_n dX2_readCond_19 rfl ?_
            refine C.getf gf_X2_21 dX2_readCond_20 h3L1 h3f1 rfl ?_
            refine C.bi dX2_readCond_23 (by decide) ?_
            refine C.callV (M1) cw_X6_take ml_X2_54 im_X6_take sl_X6_take dX2_readCond_25 h6L1 h6f1 rfl rfl (by omega) (by omega) (by omega) (Nat.le_of_ble_eq_true rfl) rfl (fun r25 L25 f25 hR25 => ?_)
            obtain ⟨rfl, rfl, -, hf9⟩ := hR25
            rw [hf9 rfl]
            refine C.if_eqI (tgt := 48) dX2_readCond_28 (by decide) (by decide) (fun hc28 => ?_) (fun hc28 => absurd hc28 (by decide))
            refine C.aload_n dX2_readCond_48 rfl ?_
            refine C.aret rfl (Or.inl ⟨_, rfl⟩) dX2_readCond_49 (by omega) (by omega) ⟨hFE, i1, k, rfl, hRS.bl, hJ.c, hi⟩
            skip
        | true =>
          have hix := hRS.has (w := 8) (by omega) hps
          rw [hps] at M1 hs
          rw [if_pos rfl] at hs
          have hpl := psP_len hps
          change wend tb e (bl tb e p1) = bl tb e p1 + 2 at hpl
          refine C.iload_n dX2_readCond_8 rfl ?_
          refine C.si dX2_readCond_9 (by decide) ?_
          refine C.icmp_geI (tgt := 48) dX2_readCond_12 (by decide) (by omega) (by omega) (fun hc12 => absurd hc12 (by omega)) (fun hc12 => ?_)
          refine C.aload_n dX2_readCond_15 rfl ?_
          refine C.ifnull dX2_readCond_16 ?_
          refine C.aload_n dX2_readCond_19 rfl ?_
          refine C.getf gf_X2_21 dX2_readCond_20 h3L1 h3f1 rfl ?_
          refine C.bi dX2_readCond_23 (by decide) ?_
          refine C.callV (M1) cw_X6_take ml_X2_54 im_X6_take sl_X6_take dX2_readCond_25 h6L1 h6f1 rfl rfl (by omega) (by omega) (by omega) (Nat.le_of_ble_eq_true rfl) rfl (fun r25 L25 f25 hR25 => ?_)
          obtain ⟨rfl, rfl, hf9, -⟩ := hR25
          obtain ⟨hRS2, hFE2⟩ := hf9 rfl
          refine C.if_eqI (tgt := 48) dX2_readCond_28 (by decide) (by decide) (fun hc28 => absurd hc28 (by decide)) (fun hc28 => ?_)
          refine C.ic dX2_readCond_31 ?_
          refine C.aload_n dX2_readCond_32 rfl ?_
          refine C.aload_n dX2_readCond_33 rfl ?_
          refine C.iload_n dX2_readCond_34 rfl ?_
          skip
          obtain ⟨h3L2, h3f2⟩ := hRS2.o3
          have M2 := hF (d - 1) L25 f25 (i1 + 1) (wend tb e (bl tb e p1)) (by omega) hRS2
          have hwe : wend tb e (bl tb e p1) ≤ e := wend_le hbe
          obtain ⟨y1, y2⟩ := hR _ hwe
          cases hq2 : F (wend tb e (bl tb e p1)) with
          | inr b0 =>
            rw [hq2] at M2 hs
            rw [bnd_r] at hs
            subst hs
            have := y2 b0 hq2
            have e1 : rcC (.inr b0) (wend tb e (bl tb e p1)) = b0 - wend tb e (bl tb e p1) := rfl
            have e2 : rcS (.inr b0) (wend tb e (bl tb e p1)) = 15 * (b0 - wend tb e (bl tb e p1)) := rfl
            have e3 : rcC (.inr b0) p = b0 - p := rfl
            have e4 : rcS (.inr b0) p = 15 * (b0 - p) := rfl
            refine C.callV (M2) cw_X2_readAll ml_X2_122 im_X2_readAll sl_X2_readAll dX2_readCond_35 h3L2 h3f2 rfl rfl (by omega) (by omega) (by omega) (Nat.le_of_ble_eq_true rfl) rfl (fun r35 L35 f35 hR35 => ?_)
            obtain ⟨hFE3, i3, rfl, hE3⟩ := hR35
            refine C.callS (c_joinedN (d := d - 1) (Or.inr ⟨⟨_, rfl⟩, rfl⟩)) cw_X0_joined ml_X2_129 sm_X0_joined dX2_readCond_38 rfl (by omega) (by omega) (by omega) (Nat.le_of_ble_eq_true rfl) rfl (fun r38 L38 f38 hR38 => ?_)
            obtain ⟨rfl, hL9, hf9⟩ := hR38
            rw [hL9, hf9]
            clear hL9 hf9
            refine C.astore_nN dX2_readCond_41 (by decide) rfl ?_
            refine C.iincI dX2_readCond_42 rfl (by decide) rfl ?_
            refine C.goto (tgt := 8) dX2_readCond_45 (by decide) ?_
            skip
            refine C.iload_n dX2_readCond_8 rfl ?_
            refine C.si dX2_readCond_9 (by decide) ?_
            refine C.icmp_geI (tgt := 48) dX2_readCond_12 (by decide) (by omega) (by omega) (fun hc12 => ?_) (fun hc12 => ?_)
            · refine C.aload_nN dX2_readCond_48 rfl ?_
              refine C.aretN rfl (Or.inl ⟨_, rfl⟩) dX2_readCond_49 (by omega) (by omega) ⟨(hFE.tr hFE2).tr hFE3, i3, rfl, hE3⟩
              skip
            · refine C.aload_nN dX2_readCond_15 rfl ?_
              refine C.ifnullN (tgt := 48) dX2_readCond_16 (by decide) ?_
              refine C.aload_nN dX2_readCond_48 rfl ?_
              refine C.aretN rfl (Or.inl ⟨_, rfl⟩) dX2_readCond_49 (by omega) (by omega) ⟨(hFE.tr hFE2).tr hFE3, i3, rfl, hE3⟩
              skip
          | inl q2 =>
            obtain ⟨t2, p2⟩ := q2
            rw [hq2] at M2 hs
            rw [bnd_l] at hs
            obtain ⟨z1, z2, z3, z4, z5⟩ := y1 t2 p2 hq2
            obtain ⟨k1, k2, k3⟩ := mkO_rd t t2 b3 z3
            obtain ⟨m3, m4⟩ := seq_room (p := p) (t := .or t t2) (mk := .or) hR (by decide) mkO_rd z2 (by omega) k1 (by omega) (by omega) hs
            have e1 : rcC (.inl (t2, p2)) (wend tb e (bl tb e p1)) = p2 - wend tb e (bl tb e p1) - 2 := rfl
            have e2 : rcS (.inl (t2, p2)) (wend tb e (bl tb e p1)) = 15 * (p2 - wend tb e (bl tb e p1)) - 60 := rfl
            have l1 := jL_lvs1 0 t
            have l2 := jL_lvs1 0 t2
            refine C.callV (M2) cw_X2_readAll ml_X2_122 im_X2_readAll sl_X2_readAll dX2_readCond_35 h3L2 h3f2 rfl rfl (by omega) (by omega) (by omega) (Nat.le_of_ble_eq_true rfl) rfl (fun r35 L35 f35 hR35 => ?_)
            obtain ⟨hFE3, i3, k3', rfl, hRS3, hC3, hi3⟩ := hR35
            skip
            have hJ3 : JAt L35 f35 D 0 k t := (hJ.keep (hFE2.p e6)).keep (hFE3.p e6)
            have M3 := c_joined (d := d - 1) (D := D) (kd := 0) (by omega) (Or.inl rfl) b3 z3 hJ3 (JAt.of hC3) (by omega)
            refine C.callS (M3) cw_X0_joined ml_X2_129 sm_X0_joined dX2_readCond_38 rfl (by omega) (by omega) (by omega) (Nat.le_of_ble_eq_true rfl) rfl (fun r38 L38 f38 hR38 => ?_)
            obtain ⟨k4, rfl, hC4, hF4⟩ := hR38
            change CAt _ _ _ _ (.or t t2) at hC4
            refine C.astore_n dX2_readCond_41 (by decide) rfl ?_
            refine C.iincI dX2_readCond_42 rfl (by decide) rfl ?_
            refine C.goto (tgt := 8) dX2_readCond_45 (by decide) ?_
            skip
            exact ih (.or t t2) p2 i3 (j + 1) k4 _ _ L38 f38 (by omega) hs z2 (by omega) k1 (by omega) (by omega) (hRS3.keep hF4) (by unfold JAt; rw [if_pos (show knd (.or t t2) = 0 from rfl)]; exact hC4) (((hFE.tr hFE2).tr hFE3).tr hF4.e) (by omega) (by omega) (by omega) (by omega)
    obtain ⟨m1, m2⟩ := seq_room hR (by decide) mkO_rd a2 a1 a3 a4 a5 hRES
    have e1 : rcC (.inl (t, p1)) p = p1 - p - 2 := rfl
    have e2 : rcS (.inl (t, p1)) p = 15 * (p1 - p) - 60 := rfl
    refine C.aload_n dX2_readCond_0 rfl ?_
    refine C.iload_n dX2_readCond_1 rfl ?_
    refine C.callV (M0) cw_X2_readAll ml_X2_122 im_X2_readAll sl_X2_readAll dX2_readCond_2 h3L h3f rfl rfl (by omega) (by omega) (by omega) (Nat.le_of_ble_eq_true rfl) rfl (fun r2 L2 f2 hR2 => ?_)
    obtain ⟨hFE, i', k, rfl, hRS, hC, hi⟩ := hR2
    refine C.astore_n dX2_readCond_5 (by decide) rfl ?_
    refine C.ic dX2_readCond_6 ?_
    refine C.istore_n dX2_readCond_7 (by decide) rfl ?_
    skip
    exact loop (e + 1) t p1 i' 0 k _ _ L2 f2 (by omega) hRES a2 a1 a3 a4 a5 hRS (JAt.of hC) hFE hi (by omega) (by omega) (by omega)
end RDC
