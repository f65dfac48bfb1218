theorem c_negated {d q D : Nat} {t : TT} {L : List Nat} {f : Nat → AC} (hd : 2 ≤ d) (ht : isT t) (h : CAt L f D q t) : AM yX0_negated cX0_negated 2 (some (.object "PlainWords$Cond")) d 2 8 [.ref q] L f (NwC L f (D + 1) (.not t)) := by
  obtain ⟨hqL, hq2, pq, hfq⟩ := h.obj
  refine AM.of (by decide +kernel) (by simp [Value.category]) (Nat.le_of_ble_eq_true rfl) false (fun h => by cases h) (fun X C => ?_)
  refine C.aload_n dX0_negated_0 rfl ?_
  refine C.ifnonnull (tgt := 6) dX0_negated_1 (by decide) ?_
  refine C.ic dX0_negated_6 ?_
  refine C.newQ (t := 4) (cl := "PlainWords$Cond") (N := 1) (fun _ => rfl) (fun h => h.2.2.2.2.2.2.2.2.1.1) (om_wsL_law0_r12 _ (List.mem_of_getElem? (i := 19) rfl)) rfl (by omega) dX0_negated_7 (by omega) (by omega) (fun p hp2 hpL => ?_)
  have hqp : q ≠ p := fun h => hpL (h ▸ hqL)
  refine C.dup dX0_negated_10 rfl ?_
  refine C.ic dX0_negated_11 ?_
  refine C.aload_n dX0_negated_12 rfl ?_
  refine C.aast4 (i := 0) dX0_negated_13 (List.mem_append_right _ List.mem_cons_self) (va_up_self _ _ _) (List.mem_append_left _ hqL) ((va_up_ne _ _ hqp).trans hfq) rfl (by omega) (by omega) ?_
  rw [up_up]
  refine C.astore_n dX0_negated_14 (by decide) rfl ?_
  refine C.new nf_X0_9 dX0_negated_15 (by omega) (Nat.le_refl _) (fun k hk2 hkL => ?_)
  have hkL0 : k ∉ L := fun h => hkL (List.mem_append_left _ h)
  have hpk : p ≠ k := fun h => hkL (h ▸ List.mem_append_right _ List.mem_cons_self)
  refine C.dup dX0_negated_18 rfl ?_
  refine C.ic dX0_negated_19 ?_
  refine C.aload_n dX0_negated_20 rfl ?_
  have hF1 : Fo L f (L ++ [p]) (va_up f p (aC 1 (va_up (fun _ => none) 0 (some q)))) := Fo.new hpL
  have hF2 : Fo L f (L ++ [p] ++ [k]) (va_up (va_up f p (aC 1 (va_up (fun _ => none) 0 (some q)))) k (.inr (3, fsC))) := hF1.tr (Fo.new hkL)
  refine C.callI (c_init2 (d := d - 1) (D := D) (kd := 2) (xs := [t]) (gr := va_up (fun _ => none) 0 (some q)) (by omega) (Or.inr (Or.inr rfl)) (List.mem_append_right _ List.mem_cons_self) (va_up_self _ _ _) (List.mem_append_left _ (List.mem_append_right _ List.mem_cons_self)) ((va_up_ne _ _ hpk).trans (va_up_self _ _ _)) (by simp) (fun i x hi => ?_)) cw_X0_init_ ml_X0_45 im_X0_init_ rfl dX0_negated_21 rfl (by omega) (Nat.le_refl _) (Nat.le_refl _) (Nat.le_of_ble_eq_true rfl) rfl (fun r L9 f9 h9 => ?_)
  · have hi0 : i = 0 := by
      have := (List.getElem?_eq_some_iff.mp hi).1
      simp at this
      exact this
    subst hi0
    obtain rfl : t = x := Option.some.inj hi
    exact ⟨ht, q, va_up_self _ _ _, CAt.keep hF2.p D h⟩
  obtain ⟨rfl, rfl, rfl⟩ := h9
  rw [CF_not, up_up]
  have hF3 : Fo L f (L ++ [p] ++ [k]) (va_up (va_up f p (aC 1 (va_up (fun _ => none) 0 (some q)))) k (.inr (3, CO (.not t) p))) := (hF1.tr (Fo.new hkL))
  refine C.aret rfl (Or.inl ⟨_, rfl⟩) dX0_negated_24 (Nat.le_refl _) (Nat.le_refl _) ⟨k, rfl, ⟨⟨hk2, List.mem_append_right _ List.mem_cons_self⟩, p, va_up (fun _ => none) 0 (some q), va_up_self _ _ _, ⟨hp2, List.mem_append_left _ (List.mem_append_right _ List.mem_cons_self)⟩, (va_up_ne _ _ hpk).trans (va_up_self _ _ _), fun i x hi => ?_⟩, hF3⟩
  have hi0 : i = 0 := by
    have := (List.getElem?_eq_some_iff.mp hi).1
    simp [pcs] at this
    exact this
  subst hi0
  obtain rfl : t = x := Option.some.inj hi
  exact ⟨q, va_up_self _ _ _, CAt.keep hF3.p D h⟩
theorem c_negatedN {d : Nat} {L : List Nat} {f : Nat → AC} : AM yX0_negated cX0_negated 2 (some (.object "PlainWords$Cond")) d 0 0 [.null] L f (SP (some .null) L f) := by
  refine AM.of (by decide +kernel) (by simp [Value.category]) (Nat.le_of_ble_eq_true rfl) false (fun h => by cases h) (fun X C => ?_)
  refine C.aload_nN dX0_negated_0 rfl ?_
  refine C.ifnonnullN dX0_negated_1 ?_
  refine C.null dX0_negated_4 ?_
  exact C.aretN rfl (Or.inl ⟨_, rfl⟩) dX0_negated_5 (Nat.le_refl _) (Nat.le_refl _) ⟨rfl, rfl, rfl⟩
/-- a condition's pieces by the sort of row: 1 and, 0 or -/
def jL (kd : Int) (t : TT) : List TT := if kd = 1 then andL t else orL t
def mkJ (kd : Int) (a b : TT) : TT := if kd = 1 then .and a b else .or a b
/-- a thing that can be joined to a row of depth D + 1 -/
def JAt (L : List Nat) (f : Nat → AC) (D : Nat) (kd : Int) (q : Nat) (t : TT) : Prop := CAt L f (if knd t = kd then D + 1 else D) q t
/-- a row p of the conditions xs, each less than D deep -/
def RwC (L : List Nat) (f : Nat → AC) (D p : Nat) (xs : List TT) : Prop := p ∈ L ∧ 2000 ≤ p ∧ ∃ gr, f p = aC xs.length gr ∧ ∀ i x, xs[i]? = some x → ∃ q, gr i = some q ∧ CAt L f D q x
theorem RwC.keep {L L' : List Nat} {f f' : Nat → AC} {D p : Nat} {xs : List TT} (h : RwC L f D p xs) (hF : Fp L f L' f') : RwC L' f' D p xs := by
  obtain ⟨h1, h2, gr, h3, h4⟩ := h
  refine ⟨hF.1 p h1, h2, gr, ?_, fun i x hi => ?_⟩
  · rw [hF.2 p h1 h2 (fun n g e => by rw [h3] at e; cases e)]; exact h3
  · obtain ⟨q, hq, hc⟩ := h4 i x hi
    exact ⟨q, hq, CAt.keep hF D hc⟩
theorem jL_ne {kd : Int} {t : TT} (hkd : kd = 0 ∨ kd = 1) (h : ¬ knd t = kd) (ht : isT t) : jL kd t = [t] := by
  rcases hkd with rfl | rfl
  · unfold jL
    rw [if_neg (by decide)]
    rcases isT_small ht with ⟨n, hn, rfl⟩ | ⟨c, hc, rfl⟩ | ⟨a, b, ha, hb, rfl⟩ | ⟨a, b, ha, hb, rfl⟩
    · rfl
    · rfl
    · rfl
    · exact absurd rfl h
  · unfold jL
    rw [if_pos rfl]
    rcases isT_small ht with ⟨n, hn, rfl⟩ | ⟨c, hc, rfl⟩ | ⟨a, b, ha, hb, rfl⟩ | ⟨a, b, ha, hb, rfl⟩
    · rfl
    · rfl
    · exact absurd rfl h
    · rfl
theorem jL_eq {kd : Int} {t : TT} (hkd : kd = 0 ∨ kd = 1) (h : knd t = kd) (ht : isT t) : jL kd t = pcs t := by
  rcases hkd with rfl | rfl
  · unfold jL
    rw [if_neg (by decide)]
    rcases isT_small ht with ⟨n, hn, rfl⟩ | ⟨c, hc, rfl⟩ | ⟨a, b, ha, hb, rfl⟩ | ⟨a, b, ha, hb, rfl⟩
    · exact absurd h (by simp [knd])
    · exact absurd h (by simp [knd])
    · exact absurd h (by simp [knd])
    · rfl
  · unfold jL
    rw [if_pos rfl]
    rcases isT_small ht with ⟨n, hn, rfl⟩ | ⟨c, hc, rfl⟩ | ⟨a, b, ha, hb, rfl⟩ | ⟨a, b, ha, hb, rfl⟩
    · exact absurd h (by simp [knd])
    · exact absurd h (by simp [knd])
    · rfl
    · exact absurd h (by simp [knd])
theorem knd_rng {t : TT} (ht : isT t) : 0 ≤ knd t ∧ knd t ≤ 3 := by
  rcases isT_small ht with ⟨n, hn, rfl⟩ | ⟨c, hc, rfl⟩ | ⟨a, b, ha, hb, rfl⟩ | ⟨a, b, ha, hb, rfl⟩ <;> simp [knd]
theorem c_rowOf {d q D : Nat} {kd : Int} {t : TT} {L : List Nat} {f : Nat → AC} (hkd : kd = 0 ∨ kd = 1) (ht : isT t) (h : JAt L f D kd q t) : AM yX0_rowOf cX0_rowOf 3 (some (.array (.object "PlainWords$Cond"))) d 1 1 [.ref q, .int (iI kd)] L f (fun r L' f' => ∃ p, r = some (.ref p) ∧ RwC L' f' D p (jL kd t) ∧ Fo L f L' f') := by
  have hr := knd_rng ht
  by_cases hk : knd t = kd
  · unfold JAt at h
    rw [if_pos hk] at h
    obtain ⟨⟨hq2, hqL⟩, p, gr, hfq, ⟨hp2, hpL⟩, hfp, hel⟩ := h
    rw [jL_eq hkd hk ht]
    refine AM.of (by decide +kernel) (by simp [Value.category]) (Nat.le_of_ble_eq_true rfl) false (fun h => by cases h) (fun X C => ?_)
    refine C.aload_n dX0_rowOf_0 rfl ?_
    refine C.getf gf_X0_11 dX0_rowOf_1 hqL hfq rfl ?_
    refine C.iload_n dX0_rowOf_4 rfl ?_
    refine C.icmp_neI (tgt := 13) dX0_rowOf_5 (by decide) (by omega) (by omega) (fun h => absurd hk h) (fun _ => ?_)
    refine C.aload_n dX0_rowOf_8 rfl ?_
    refine C.getf gf_X0_18 dX0_rowOf_9 hqL hfq rfl ?_
    exact C.aret rfl (Or.inr ⟨_, rfl⟩) dX0_rowOf_12 (Nat.zero_le _) (Nat.zero_le _) ⟨p, rfl, ⟨hpL, hp2, gr, hfp, hel⟩, Fo.rf⟩
  · unfold JAt at h
    rw [if_neg hk] at h
    obtain ⟨hqL, hq2, pq, hfq⟩ := h.obj
    rw [jL_ne hkd hk ht]
    refine AM.of (by decide +kernel) (by simp [Value.category]) (Nat.le_of_ble_eq_true rfl) false (fun h => by cases h) (fun X C => ?_)
    refine C.aload_n dX0_rowOf_0 rfl ?_
    refine C.getf gf_X0_11 dX0_rowOf_1 hqL hfq rfl ?_
    refine C.iload_n dX0_rowOf_4 rfl ?_
    refine C.icmp_neI (tgt := 13) dX0_rowOf_5 (by decide) (by omega) (by omega) (fun _ => ?_) (fun h => absurd h hk)
    refine C.ic dX0_rowOf_13 ?_
    refine C.newQ (t := 4) (cl := "PlainWords$Cond") (N := 1) (fun _ => rfl) (fun h => h.2.2.2.2.2.2.2.2.1.1) (om_wsL_law0_r12 _ (List.mem_of_getElem? (i := 19) rfl)) rfl (by omega) dX0_rowOf_14 (Nat.le_refl _) (Nat.le_refl _) (fun p hp2 hpL => ?_)
    have hqp : q ≠ p := fun h => hpL (h ▸ hqL)
    refine C.dup dX0_rowOf_17 rfl ?_
    refine C.ic dX0_rowOf_18 ?_
    refine C.aload_n dX0_rowOf_19 rfl ?_
    refine C.aast4 (i := 0) dX0_rowOf_20 (List.mem_append_right _ List.mem_cons_self) (va_up_self _ _ _) (List.mem_append_left _ hqL) ((va_up_ne _ _ hqp).trans hfq) rfl (by omega) (by omega) ?_
    rw [up_up]
    refine C.astore_n dX0_rowOf_21 (by decide) rfl ?_
    refine C.aload_n dX0_rowOf_22 rfl ?_
    have hF1 : Fo L f (L ++ [p]) (va_up f p (aC 1 (va_up (fun _ => none) 0 (some q)))) := Fo.new hpL
    refine C.aret rfl (Or.inr ⟨_, rfl⟩) dX0_rowOf_23 (Nat.le_refl _) (Nat.le_refl _) ⟨p, rfl, ⟨List.mem_append_right _ List.mem_cons_self, hp2, va_up (fun _ => none) 0 (some q), va_up_self _ _ _, fun i x hi => ?_⟩, hF1⟩
    have hi0 : i = 0 := by
      have := (List.getElem?_eq_some_iff.mp hi).1
      simp at this
      exact this
    subst hi0
    obtain rfl : t = x := Option.some.inj hi
    exact ⟨q, va_up_self _ _ _, CAt.keep hF1.p D h⟩
theorem jL_mk (kd : Int) (hkd : kd = 0 ∨ kd = 1) (a b : TT) (p : Nat) : CF kd (jL kd a ++ jL kd b) p = CO (mkJ kd a b) p ∧ pcs (mkJ kd a b) = jL kd a ++ jL kd b ∧ knd (mkJ kd a b) = kd := by
  rcases hkd with rfl | rfl
  · exact ⟨CF_or a b p, rfl, rfl⟩
  · exact ⟨CF_and a b p, rfl, rfl⟩
theorem jL_isT {kd : Int} {t : TT} (ht : isT t) : ∀ x ∈ jL kd t, isT x := by
  unfold jL
  split
  · exact andL_isT ht
  · exact orL_isT ht
set_option maxRecDepth 20000 in
set_option maxHeartbeats 2000000 in
theorem c_joined {d q1 q2 D : Nat} {kd : Int} {a b : TT} {L : List Nat} {f : Nat → AC} (hd : 2 ≤ d) (hkd : kd = 0 ∨ kd = 1) (ha : isT a) (hb : isT b) (h1 : JAt L f D kd q1 a) (h2 : JAt L f D kd q2 b) (hl : (jL kd a).length + (jL kd b).length < 1000) : AM yX0_joined cX0_joined 7 (some (.object "PlainWords$Cond")) d 4 ((jL kd a).length + (jL kd b).length + 9) [.int (iI kd), .ref q1, .ref q2] L f (NwC L f (D + 1) (mkJ kd a b)) := by
  have o1 : q1 ∈ L ∧ ∃ p, f q1 = .inr (3, CO a p) := by obtain ⟨x, -, y⟩ := CAt.obj h1; exact ⟨x, y⟩
  obtain ⟨hq1, p1, hf1⟩ := o1
  refine AM.of (by decide +kernel) (by simp [Value.category]) (Nat.le_of_ble_eq_true rfl) false (fun h => by cases h) (fun X C => ?_)
  refine C.aload_n dX0_joined_0 rfl ?_
  refine C.ifnull dX0_joined_1 ?_
  refine C.aload_n dX0_joined_4 rfl ?_
  refine C.ifnonnull (tgt := 10) dX0_joined_5 (by decide) ?_
  refine C.aload_n dX0_joined_10 rfl ?_
  refine C.iload_n dX0_joined_11 rfl ?_
  refine C.callV (c_rowOf (d := d - 1) hkd ha h1) cw_X0_rowOf ml_X0_48 im_X0_rowOf sl_X0_rowOf dX0_joined_12 hq1 hf1 rfl rfl (by omega) (by omega) (by omega) (Nat.le_of_ble_eq_true rfl) rfl (fun r L1 f1 hr1 => ?_)
  obtain ⟨pa, rfl, hRa, hF1⟩ := hr1
  have h2' : JAt L1 f1 D kd q2 b := CAt.keep hF1.p _ h2
  have o2 : q2 ∈ L1 ∧ ∃ p, f1 q2 = .inr (3, CO b p) := by obtain ⟨x, -, y⟩ := CAt.obj h2'; exact ⟨x, y⟩
  obtain ⟨hq2, p2, hf2⟩ := o2
  refine C.astore_n dX0_joined_15 (by decide) rfl ?_
  refine C.aload_n dX0_joined_16 rfl ?_
  refine C.iload_n dX0_joined_17 rfl ?_
  refine C.callV (c_rowOf (d := d - 1) hkd hb h2') cw_X0_rowOf ml_X0_48 im_X0_rowOf sl_X0_rowOf dX0_joined_18 hq2 hf2 rfl rfl (by omega) (by omega) (by omega) (Nat.le_of_ble_eq_true rfl) rfl (fun r L2 f2 hr2 => ?_)
  obtain ⟨pb, rfl, hRb, hF2⟩ := hr2
  have hRa2 := hRa.keep hF2.p
  have hF12 := hF1.tr hF2
  obtain ⟨hpa, hpa2, ga, hfa, hea⟩ := hRa2
  obtain ⟨hpb, hpb2, gb, hfb, heb⟩ := hRb
  generalize hxa : jL kd a = xa at *
  generalize hxb : jL kd b = xb at *
  refine C.astore dX0_joined_21 (by decide) rfl ?_
  refine C.aload_n dX0_joined_23 rfl ?_
  refine C.alenI dX0_joined_24 hpa hfa (by decide) ?_
  refine C.aload dX0_joined_25 rfl ?_
  refine C.alenI dX0_joined_27 hpb hfb (by decide) ?_
  refine C.iaddI dX0_joined_28 ?_
  refine C.newQ (t := 4) (cl := "PlainWords$Cond") (N := xa.length + xb.length) (fun _ => rfl) (fun h => h.2.2.2.2.2.2.2.2.1.1) (om_wsL_law0_r12 _ (List.mem_of_getElem? (i := 19) rfl)) (by omega) (by omega) dX0_joined_29 (by omega) (by omega) (fun p hp2 hpL => ?_)
  have hap : pa ≠ p := fun h => hpL (h ▸ hpa)
  have hbp : pb ≠ p := fun h => hpL (h ▸ hpb)
  refine C.astore dX0_joined_32 (by decide) rfl ?_
  refine C.ic dX0_joined_34 ?_
  refine C.istore dX0_joined_35 (by decide) rfl ?_
  -- what stands at i of both rows
  have gat : ∀ i x, (xa ++ xb)[i]? = some x → ∃ q, (if i < xa.length then ga i else gb (i - xa.length)) = some q ∧ CAt L2 f2 D q x := by
    intro i x hi
    by_cases hil : i < xa.length
    · rw [List.getElem?_append_left hil] at hi
      rw [if_pos hil]
      exact hea i x hi
    · rw [List.getElem?_append_right (by omega)] at hi
      rw [if_neg hil]
      exact heb _ x hi
  have fin : ∀ (gr : Nat → Option Nat) (v6 : Int32), (∀ i, i < xa.length + xb.length → gr i = if i < xa.length then ga i else gb (i - xa.length)) → X (0 + 1 + 1 + 1) (0 + 1 + 1 + (xa.length + xb.length)) (L2 ++ [p]) (va_up f2 p (aC (xa.length + xb.length) gr)) 78 [some (.int (iI kd)), some (.ref q1), some (.ref q2), some (.ref pa), some (.ref pb), some (.ref p), some (.int v6)] [] := by
    intro gr v6 hgr
    have hF3 : Fo L2 f2 (L2 ++ [p]) (va_up f2 p (aC (xa.length + xb.length) gr)) := Fo.new hpL
    refine C.new nf_X0_9 dX0_joined_78 (Nat.le_refl _) (by simp; omega) (fun k hk2 hkL => ?_)
    have hpk : p ≠ k := fun h => hkL (h ▸ List.mem_append_right _ List.mem_cons_self)
    have hkL0 : k ∉ L := fun h => hkL (List.mem_append_left _ (hF12.1 k h))
    refine C.dup dX0_joined_81 rfl ?_
    refine C.iload_n dX0_joined_82 rfl ?_
    refine C.aload dX0_joined_83 rfl ?_
    have hF4 : ∀ x, Fo L2 f2 (L2 ++ [p] ++ [k]) (va_up (va_up f2 p (aC (xa.length + xb.length) gr)) k x) := fun x => hF3.tr (Fo.new hkL)
    have hgr2 : ∀ {f'}, Fp L2 f2 (L2 ++ [p] ++ [k]) f' → ∀ i x, (xa ++ xb)[i]? = some x → ∃ q, gr i = some q ∧ CAt (L2 ++ [p] ++ [k]) f' D q x := fun hF i x hi => by
      have hil := (List.getElem?_eq_some_iff.mp hi).1
      rw [List.length_append] at hil
      obtain ⟨q, hq, hc⟩ := gat i x hi
      exact ⟨q, (hgr i hil).trans hq, CAt.keep hF D hc⟩
    have hTT : ∀ x ∈ xa ++ xb, isT x := fun x hx => by
      rcases List.mem_append.mp hx with h | h
      · rw [← hxa] at h; exact jL_isT ha x h
      · rw [← hxb] at h; exact jL_isT hb x h
    refine C.callI (c_init2 (d := d - 1) (D := D) (kd := kd) (xs := xa ++ xb) (gr := gr) (by omega) (by omega) (List.mem_append_right _ List.mem_cons_self) (va_up_self _ _ _) (List.mem_append_left _ (List.mem_append_right _ List.mem_cons_self)) ((va_up_ne _ _ hpk).trans ((va_up_self _ _ _).trans (by rw [List.length_append]))) (by rw [List.length_append]; exact hl) (fun i x hi => ⟨hTT x (List.mem_of_getElem? hi), hgr2 (hF4 _).p i x hi⟩)) cw_X0_init_ ml_X0_45 im_X0_init_ rfl dX0_joined_85 rfl (by omega) (Nat.le_refl _) (by simp; omega) (Nat.le_of_ble_eq_true rfl) rfl (fun r L9 f9 h9 => ?_)
    obtain ⟨rfl, rfl, rfl⟩ := h9
    obtain ⟨m1, m2, m3⟩ := jL_mk kd hkd a b p
    rw [hxa, hxb] at m1 m2
    rw [m1, up_up]
    refine C.aret rfl (Or.inl ⟨_, rfl⟩) dX0_joined_88 (Nat.le_refl _) (by simp; omega) ⟨k, rfl, ⟨⟨hk2, List.mem_append_right _ List.mem_cons_self⟩, p, gr, va_up_self _ _ _, ⟨hp2, List.mem_append_left _ (List.mem_append_right _ List.mem_cons_self)⟩, (va_up_ne _ _ hpk).trans ((va_up_self _ _ _).trans (by rw [m2, List.length_append])), fun i x hi => ?_⟩, hF12.tr (hF4 _)⟩
    rw [m2] at hi
    exact hgr2 (hF4 _).p i x hi
  have loop : ∀ (m i : Nat) (gr : Nat → Option Nat), i + m = xa.length + xb.length → (∀ j, j < i → gr j = if j < xa.length then ga j else gb (j - xa.length)) → X (0 + 1 + 1 + 1) (0 + 1 + 1 + (xa.length + xb.length)) (L2 ++ [p]) (va_up f2 p (aC (xa.length + xb.length) gr)) 37 [some (.int (iI kd)), some (.ref q1), some (.ref q2), some (.ref pa), some (.ref pb), some (.ref p), some (.int (iI i))] [] := by
    intro m
    induction m with
    | zero =>
      intro i gr hi hgr
      refine C.iload dX0_joined_37 rfl ?_
      refine C.aload dX0_joined_39 rfl ?_
      refine C.alenI dX0_joined_41 (List.mem_append_right _ List.mem_cons_self) (va_up_self _ _ _) (by decide) ?_
      refine C.icmp_geI (tgt := 78) dX0_joined_42 (by decide) (by omega) (by omega) (fun _ => ?_) (fun h => absurd h (by omega))
      exact fin gr _ (fun j hj => hgr j (by omega))
    | succ m ih =>
      intro i gr hi hgr
      have hil : i < (xa ++ xb).length := by rw [List.length_append]; omega
      obtain ⟨q, hq, hc⟩ := gat i _ (List.getElem?_eq_getElem hil)
      obtain ⟨hqL, -, pq, hfq⟩ := hc.obj
      have hqp : q ≠ p := fun h => hpL (h ▸ hqL)
      refine C.iload dX0_joined_37 rfl ?_
      refine C.aload dX0_joined_39 rfl ?_
      refine C.alenI dX0_joined_41 (List.mem_append_right _ List.mem_cons_self) (va_up_self _ _ _) (by decide) ?_
      refine C.icmp_geI (tgt := 78) dX0_joined_42 (by decide) (by omega) (by omega) (fun h => absurd h (by omega)) (fun _ => ?_)
      refine C.aload dX0_joined_45 rfl ?_
      refine C.iload dX0_joined_47 rfl ?_
      refine C.iload dX0_joined_49 rfl ?_
      refine C.aload_n dX0_joined_51 rfl ?_
      refine C.alenI dX0_joined_52 (List.mem_append_left _ hpa) ((va_up_ne _ _ hap).trans hfa) (by decide) ?_
      have nx : X (0 + 1 + 1 + 1) (0 + 1 + 1 + (xa.length + xb.length)) (L2 ++ [p]) (va_up f2 p (aC (xa.length + xb.length) gr)) 71 [some (.int (iI kd)), some (.ref q1), some (.ref q2), some (.ref pa), some (.ref pb), some (.ref p), some (.int (iI i))] [.ref q, .int (iI i), .ref p] := by
        refine C.aast4 (i := i) dX0_joined_71 (List.mem_append_right _ List.mem_cons_self) (va_up_self _ _ _) (List.mem_append_left _ hqL) ((va_up_ne _ _ hqp).trans hfq) rfl (by omega) (by omega) ?_
        rw [up_up]
        refine C.iincI dX0_joined_72 rfl (by decide) rfl ?_
        refine C.goto (tgt := 37) dX0_joined_75 (by decide) ?_
        refine ih (i + 1) _ (by omega) (fun j hj => ?_)
        by_cases hji : j = i
        · subst hji
          rw [va_up_self, hq]
        · rw [va_up_ne _ _ hji]
          exact hgr j (by omega)
      refine C.icmp_geI (tgt := 63) dX0_joined_53 (by decide) (by omega) (by omega) (fun hge => ?_) (fun hlt => ?_)
      · rw [if_neg (by omega)] at hq
        refine C.aload dX0_joined_63 rfl ?_
        refine C.iload dX0_joined_65 rfl ?_
        refine C.aload_n dX0_joined_67 rfl ?_
        refine C.alenI dX0_joined_68 (List.mem_append_left _ hpa) ((va_up_ne _ _ hap).trans hfa) (by decide) ?_
        refine C.isubI dX0_joined_69 ?_
        refine C.topI (b := ((i - xa.length : Nat) : Int)) (by omega) ?_
        refine C.aald4 dX0_joined_70 (List.mem_append_left _ hpb) ((va_up_ne _ _ hbp).trans hfb) (iI_in (by omega) (by omega) (by omega)) ?_
        rw [iI_clamp (by omega), Int.toNat_natCast, hq]
        exact nx
      · rw [if_pos (by omega)] at hq
        refine C.aload_n dX0_joined_56 rfl ?_
        refine C.iload dX0_joined_57 rfl ?_
        refine C.aald4 dX0_joined_59 (List.mem_append_left _ hpa) ((va_up_ne _ _ hap).trans hfa) (iI_in (by omega) (by omega) (by omega)) ?_
        rw [iI_clamp (by omega), Int.toNat_natCast, hq]
        refine C.goto (tgt := 71) dX0_joined_60 (by decide) ?_
        exact nx
  exact loop (xa.length + xb.length) 0 (fun _ => none) (by omega) (fun j hj => absurd hj (by omega))
theorem c_joinedN {d : Nat} {kd : Int} {v1 v2 : Value} {L : List Nat} {f : Nat → AC} (h : (v1 = .null ∧ (v2 = .null ∨ ∃ q, v2 = .ref q)) ∨ ((∃ q, v1 = .ref q) ∧ v2 = .null)) : AM yX0_joined cX0_joined 7 (some (.object "PlainWords$Cond")) d 0 0 [.int (iI kd), v1, v2] L f (SP (some .null) L f) := by
  rcases h with ⟨rfl, h2⟩ | ⟨⟨q, rfl⟩, rfl⟩
  · have hc2 : v2.category = 1 := by rcases h2 with rfl | ⟨q, rfl⟩ <;> rfl
    refine AM.of (by decide +kernel) (fun v hv => by simp only [List.mem_cons, List.not_mem_nil, or_false] at hv; rcases hv with rfl | rfl | rfl <;> first | rfl | exact hc2) (Nat.le_of_ble_eq_true rfl) false (fun h => by cases h) (fun X C => ?_)
    refine C.aload_nN dX0_joined_0 rfl ?_
    refine C.ifnullN (tgt := 8) dX0_joined_1 (by decide) ?_
    refine C.null dX0_joined_8 ?_
    exact C.aretN rfl (Or.inl ⟨_, rfl⟩) dX0_joined_9 (Nat.le_refl _) (Nat.le_refl _) ⟨rfl, rfl, rfl⟩
  · refine AM.of (by decide +kernel) (by simp [Value.category]) (Nat.le_of_ble_eq_true rfl) false (fun h => by cases h) (fun X C => ?_)
    refine C.aload_n dX0_joined_0 rfl ?_
    refine C.ifnull dX0_joined_1 ?_
    refine C.aload_nN dX0_joined_4 rfl ?_
    refine C.ifnonnullN dX0_joined_5 ?_
    refine C.null dX0_joined_8 ?_
    exact C.aretN rfl (Or.inl ⟨_, rfl⟩) dX0_joined_9 (Nat.le_refl _) (Nat.le_refl _) ⟨rfl, rfl, rfl⟩
