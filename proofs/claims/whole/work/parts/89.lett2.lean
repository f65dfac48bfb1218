/-! turns of a letter -/
theorem set_take_drop {α : Type} : ∀ (ys : List α) (i : Nat) (z : α), i < ys.length → (ys.set i z).take (i + 1) ++ (ys.set i z).drop (i + 2) = ys.take i ++ z :: ys.drop (i + 2)
  | [], i, z, h => absurd h (by simp)
  | y :: ys, 0, z, h => by simp
  | y :: ys, i + 1, z, h => by
    have := set_take_drop ys i z (by simpa using h)
    simp only [List.set_cons_succ, List.take_succ_cons, List.drop_succ_cons, List.cons_append, this]
section LETT2
variable {d lt e i : Nat} {L : List Nat} {f : Nat → AC} {ps : List (Nat × Sen)} {p : Nat × Sen}
theorem t_turnAt (hd : 4 ≤ d) (h : LtAt L f lt e ps) (hp : ps[i]? = some p) : AM yX1_turnAt cX1_turnAt 3 (some .boolean) d 1 7 [.ref lt, .int (iI i)] L f (LtPo L f lt e (some (.int (iI (b2i (canT p.2))))) (if canT p.2 then (ps.map (fun p => p.2)).set i (trn p.2) else ps.map (fun p => p.2))) := by
  have M1 := t_at (d := d - 1) (by omega) h hp
  have hpw := h.2.2 p (List.mem_of_getElem? hp)
  have hi : i < ps.length := (List.getElem?_eq_some_iff.mp hp).1
  obtain ⟨hpL, -, fs, hfp⟩ := hpw.obj
  obtain ⟨D, hS, hx, hD⟩ := hpw
  have M2 := s_canTurn (d := d - 1) hS hx
  have M3 := s_turned (d := d - 1) (by omega) hS
  obtain ⟨-, hlt, hflt⟩ := h.1
  cases hc : canT p.2 with
  | false =>
    rw [hc] at M2
    refine AM.of (by decide +kernel) (by simp [Value.category]) (Nat.le_of_ble_eq_true rfl) false (fun h => by cases h) (fun X C => ?_)
    refine C.aload_n dX1_turnAt_0 rfl ?_
    refine C.iload_n dX1_turnAt_1 rfl ?_
    refine C.callV (M1) cw_X1_at ml_X1_36 im_X1_at sl_X1_at dX1_turnAt_2 hlt hflt rfl rfl (by omega) (Nat.zero_le _) (Nat.zero_le _) (Nat.le_of_ble_eq_true rfl) rfl (fun r2 L2 f2 hR2 => ?_)
    obtain ⟨rfl, hL9, hf9⟩ := hR2
    rw [hL9, hf9]
    clear hL9 hf9
    refine C.callV (M2) cw_X3_canTurn ml_X1_68 im_X3_canTurn sl_X3_canTurn dX1_turnAt_5 hpL hfp rfl rfl (by omega) (Nat.zero_le _) (Nat.zero_le _) (Nat.le_of_ble_eq_true rfl) rfl (fun r5 L5 f5 hR5 => ?_)
    obtain ⟨rfl, hL9, hf9⟩ := hR5
    rw [hL9, hf9]
    clear hL9 hf9
    refine C.istore_n dX1_turnAt_8 (by decide) rfl ?_
    refine C.iload_n dX1_turnAt_9 rfl ?_
    refine C.if_eqI (tgt := 30) dX1_turnAt_10 (by decide) (by decide) (fun hc10 => ?_) (fun hc10 => absurd hc10 (by decide))
    refine C.iload_n dX1_turnAt_30 rfl ?_
    refine C.retI rfl (by first | rfl | (exact (iI_bool (by first | exact Or.inl rfl | exact Or.inr rfl | assumption)).1)) dX1_turnAt_31 (Nat.zero_le _) (Nat.zero_le _) ⟨rfl, e, ps, rfl, h, FqL.rf, Or.inl rfl⟩
    skip
  | true =>
    rw [hc] at M2
    refine AM.of (by decide +kernel) (by simp [Value.category]) (Nat.le_of_ble_eq_true rfl) false (fun h => by cases h) (fun X C => ?_)
    refine C.aload_n dX1_turnAt_0 rfl ?_
    refine C.iload_n dX1_turnAt_1 rfl ?_
    refine C.callV (M1) cw_X1_at ml_X1_36 im_X1_at sl_X1_at dX1_turnAt_2 hlt hflt rfl rfl (by omega) (Nat.zero_le _) (Nat.zero_le _) (Nat.le_of_ble_eq_true rfl) rfl (fun r2 L2 f2 hR2 => ?_)
    obtain ⟨rfl, hL9, hf9⟩ := hR2
    rw [hL9, hf9]
    clear hL9 hf9
    refine C.callV (M2) cw_X3_canTurn ml_X1_68 im_X3_canTurn sl_X3_canTurn dX1_turnAt_5 hpL hfp rfl rfl (by omega) (Nat.zero_le _) (Nat.zero_le _) (Nat.le_of_ble_eq_true rfl) rfl (fun r5 L5 f5 hR5 => ?_)
    obtain ⟨rfl, hL9, hf9⟩ := hR5
    rw [hL9, hf9]
    clear hL9 hf9
    refine C.istore_n dX1_turnAt_8 (by decide) rfl ?_
    refine C.iload_n dX1_turnAt_9 rfl ?_
    refine C.if_eqI (tgt := 30) dX1_turnAt_10 (by decide) (by decide) (fun hc10 => absurd hc10 (by decide)) (fun hc10 => ?_)
    refine C.aload_n dX1_turnAt_13 rfl ?_
    refine C.getf gf_X1_12 dX1_turnAt_14 hlt hflt rfl ?_
    refine C.iload_n dX1_turnAt_17 rfl ?_
    refine C.aload_n dX1_turnAt_18 rfl ?_
    refine C.iload_n dX1_turnAt_19 rfl ?_
    refine C.callV (M1) cw_X1_at ml_X1_36 im_X1_at sl_X1_at dX1_turnAt_20 hlt hflt rfl rfl (by omega) (Nat.zero_le _) (Nat.zero_le _) (Nat.le_of_ble_eq_true rfl) rfl (fun r20 L20 f20 hR20 => ?_)
    obtain ⟨rfl, hL9, hf9⟩ := hR20
    rw [hL9, hf9]
    clear hL9 hf9
    refine C.callV (M3) cw_X3_turned ml_X1_72 im_X3_turned sl_X3_turned dX1_turnAt_23 hpL hfp rfl rfl (by omega) (Nat.le_refl _) (Nat.le_refl _) (Nat.le_of_ble_eq_true rfl) rfl (fun r23 L23 f23 hR23 => ?_)
    obtain ⟨q, rfl, hS9, hF9⟩ := hR23
    skip
    have h9 := h.keepO hF9
    have M4 := lt_set (d := d - 1) (x := trn p.2) (by omega) h9 hi ⟨D, hS9, hx.trn hc, hD⟩
    obtain ⟨cap9, hls9⟩ := h9.2.1
    obtain ⟨hkL, -, ⟨m, n, hfk⟩, -⟩ := hls9.obj
    refine C.callV (M4) cw_Jx4a65c_set_bcc79 ml_X1_50 im_Jx4a65c_set_bcc79 sl_Jx4a65c_set_bcc79 dX1_turnAt_26 hkL hfk rfl rfl (by omega) (Nat.le_refl _) (Nat.le_refl _) (Nat.le_of_ble_eq_true rfl) rfl (fun r26 L26 f26 hR26 => ?_)
    obtain ⟨⟨y, rfl⟩, rfl, hA, hF⟩ := hR26
    refine C.pop dX1_turnAt_29 rfl ?_
    refine C.iload_n dX1_turnAt_30 rfl ?_
    refine C.retI rfl (by first | rfl | (exact (iI_bool (by first | exact Or.inl rfl | exact Or.inr rfl | assumption)).1)) dX1_turnAt_31 (Nat.le_refl _) (Nat.le_refl _) ⟨rfl, e, _, ?_, hA, hF9.ql.tr hF (Or.inl rfl), Or.inl rfl⟩
    rw [List.map_set]
    rfl
set_option maxHeartbeats 1000000 in
theorem t_easeAt {N : Nat} (hN : N < 900) (hd : 36 ≤ d) (h : LtAt L f lt e ps) (hp : ps[i]? = some p) (hlv : lvs (ezT p.2.2.2.1 p.2.2.2.2) ≤ N) (hlen : (cdO (ezO p.2.2.2.1 p.2.2.2.2)).length ≤ 400) : AM yX1_easeAt cX1_easeAt 3 (some .boolean) d (kc (ezT p.2.2.2.1 p.2.2.2.2) + 7) (ks N (ezT p.2.2.2.1 p.2.2.2.2) + N + 24) [.ref lt, .int (iI i)] L f (LtPo L f lt e (some (.int (iI (b2i (canE p.2))))) (if canE p.2 then (ps.map (fun p => p.2)).set i (ezS p.2) else ps.map (fun p => p.2))) := by
  have M1 := t_at (d := d - 1) (by omega) h hp
  have hpw := h.2.2 p (List.mem_of_getElem? hp)
  have hi : i < ps.length := (List.getElem?_eq_some_iff.mp hp).1
  obtain ⟨hpL, -, fs, hfp⟩ := hpw.obj
  obtain ⟨D, hS, hx, hD⟩ := hpw
  have M2 := s_canEase (d := d - 1) hS
  obtain ⟨-, hlt, hflt⟩ := h.1
  cases hc : canE p.2 with
  | false =>
    rw [hc] at M2
    refine AM.of (by decide +kernel) (by simp [Value.category]) (Nat.le_of_ble_eq_true rfl) false (fun h => by cases h) (fun X C => ?_)
    refine C.aload_n dX1_easeAt_0 rfl ?_
    refine C.iload_n dX1_easeAt_1 rfl ?_
    refine C.callV (M1) cw_X1_at ml_X1_36 im_X1_at sl_X1_at dX1_easeAt_2 hlt hflt rfl rfl (by omega) (Nat.zero_le _) (Nat.zero_le _) (Nat.le_of_ble_eq_true rfl) rfl (fun r2 L2 f2 hR2 => ?_)
    obtain ⟨rfl, hL9, hf9⟩ := hR2
    rw [hL9, hf9]
    clear hL9 hf9
    refine C.callV (M2) cw_X3_canEase ml_X1_76 im_X3_canEase sl_X3_canEase dX1_easeAt_5 hpL hfp rfl rfl (by omega) (Nat.zero_le _) (Nat.zero_le _) (Nat.le_of_ble_eq_true rfl) rfl (fun r5 L5 f5 hR5 => ?_)
    obtain ⟨rfl, hL9, hf9⟩ := hR5
    rw [hL9, hf9]
    clear hL9 hf9
    refine C.istore_n dX1_easeAt_8 (by decide) rfl ?_
    refine C.iload_n dX1_easeAt_9 rfl ?_
    refine C.if_eqI (tgt := 30) dX1_easeAt_10 (by decide) (by decide) (fun hc10 => ?_) (fun hc10 => absurd hc10 (by decide))
    refine C.iload_n dX1_easeAt_30 rfl ?_
    refine C.retI rfl (by first | rfl | (exact (iI_bool (by first | exact Or.inl rfl | exact Or.inr rfl | assumption)).1)) dX1_easeAt_31 (Nat.zero_le _) (Nat.zero_le _) ⟨rfl, e, ps, rfl, h, FqL.rf, Or.inl rfl⟩
    skip
  | true =>
    rw [hc] at M2
    have M3 := s_eased (d := d - 1) hN (by omega) (by omega) hS hx hc hlv hlen
    refine AM.of (by decide +kernel) (by simp [Value.category]) (Nat.le_of_ble_eq_true rfl) false (fun h => by cases h) (fun X C => ?_)
    refine C.aload_n dX1_easeAt_0 rfl ?_
    refine C.iload_n dX1_easeAt_1 rfl ?_
    refine C.callV (M1) cw_X1_at ml_X1_36 im_X1_at sl_X1_at dX1_easeAt_2 hlt hflt rfl rfl (by omega) (Nat.zero_le _) (Nat.zero_le _) (Nat.le_of_ble_eq_true rfl) rfl (fun r2 L2 f2 hR2 => ?_)
    obtain ⟨rfl, hL9, hf9⟩ := hR2
    rw [hL9, hf9]
    clear hL9 hf9
    refine C.callV (M2) cw_X3_canEase ml_X1_76 im_X3_canEase sl_X3_canEase dX1_easeAt_5 hpL hfp rfl rfl (by omega) (Nat.zero_le _) (Nat.zero_le _) (Nat.le_of_ble_eq_true rfl) rfl (fun r5 L5 f5 hR5 => ?_)
    obtain ⟨rfl, hL9, hf9⟩ := hR5
    rw [hL9, hf9]
    clear hL9 hf9
    refine C.istore_n dX1_easeAt_8 (by decide) rfl ?_
    refine C.iload_n dX1_easeAt_9 rfl ?_
    refine C.if_eqI (tgt := 30) dX1_easeAt_10 (by decide) (by decide) (fun hc10 => absurd hc10 (by decide)) (fun hc10 => ?_)
    refine C.aload_n dX1_easeAt_13 rfl ?_
    refine C.getf gf_X1_12 dX1_easeAt_14 hlt hflt rfl ?_
    refine C.iload_n dX1_easeAt_17 rfl ?_
    refine C.aload_n dX1_easeAt_18 rfl ?_
    refine C.iload_n dX1_easeAt_19 rfl ?_
    refine C.callV (M1) cw_X1_at ml_X1_36 im_X1_at sl_X1_at dX1_easeAt_20 hlt hflt rfl rfl (by omega) (Nat.zero_le _) (Nat.zero_le _) (Nat.le_of_ble_eq_true rfl) rfl (fun r20 L20 f20 hR20 => ?_)
    obtain ⟨rfl, hL9, hf9⟩ := hR20
    rw [hL9, hf9]
    clear hL9 hf9
    refine C.callV (M3) cw_X3_eased ml_X1_79 im_X3_eased sl_X3_eased dX1_easeAt_23 hpL hfp rfl rfl (by omega) (by omega) (by omega) (Nat.le_of_ble_eq_true rfl) rfl (fun r23 L23 f23 hR23 => ?_)
    obtain ⟨q, rfl, hS9, hF9⟩ := hR23
    skip
    have h9 := h.keepO hF9
    have M4 := lt_set (d := d - 1) (x := ezS p.2) (by omega) h9 hi ⟨_, hS9, hx.ezS, by show _ + 0 ≤ 29; omega⟩
    obtain ⟨cap9, hls9⟩ := h9.2.1
    obtain ⟨hkL, -, ⟨m, n, hfk⟩, -⟩ := hls9.obj
    refine C.callV (M4) cw_Jx4a65c_set_bcc79 ml_X1_50 im_Jx4a65c_set_bcc79 sl_Jx4a65c_set_bcc79 dX1_easeAt_26 hkL hfk rfl rfl (by omega) (by omega) (by omega) (Nat.le_of_ble_eq_true rfl) rfl (fun r26 L26 f26 hR26 => ?_)
    obtain ⟨⟨y, rfl⟩, rfl, hA, hF⟩ := hR26
    refine C.pop dX1_easeAt_29 rfl ?_
    refine C.iload_n dX1_easeAt_30 rfl ?_
    refine C.retI rfl (by first | rfl | (exact (iI_bool (by first | exact Or.inl rfl | exact Or.inr rfl | assumption)).1)) dX1_easeAt_31 (by omega) (by omega) ⟨rfl, e, _, ?_, hA, hF9.ql.tr hF (Or.inl rfl), Or.inl rfl⟩
    rw [List.map_set]
    rfl
theorem t_meltL (hd : 1 ≤ d) (h : LtAt L f lt e ps) (hi : i + 1 = ps.length) (hl : ps.length ≤ 24) : AM yX1_meltAt cX1_meltAt 2 (some .boolean) d 0 0 [.ref lt, .int (iI i)] L f (SP (some (.int (iI 0))) L f) := by
  have M0 := lt_size (d := d - 1) h
  obtain ⟨-, hlt, hflt⟩ := h.1
  obtain ⟨cap, hls⟩ := h.2.1
  obtain ⟨hkL, -, ⟨m, n, hfk⟩, -⟩ := hls.obj
  refine AM.of (by decide +kernel) (by simp [Value.category]) (Nat.le_of_ble_eq_true rfl) false (fun h => by cases h) (fun X C => ?_)
  refine C.iload_n dX1_meltAt_0 rfl ?_
  refine C.ic dX1_meltAt_1 ?_
  refine C.iaddI dX1_meltAt_2 ?_
  refine C.aload_n dX1_meltAt_3 rfl ?_
  refine C.getf gf_X1_12 dX1_meltAt_4 hlt hflt rfl ?_
  refine C.callV (M0) cw_Jx4a65c_size_8abf5 ml_X1_18 im_Jx4a65c_size_8abf5 sl_Jx4a65c_size_8abf5 dX1_meltAt_7 hkL hfk rfl rfl (by omega) (Nat.le_refl _) (Nat.le_refl _) (Nat.le_of_ble_eq_true rfl) rfl (fun r7 L7 f7 hR7 => ?_)
  obtain ⟨rfl, hL9, hf9⟩ := hR7
  rw [hL9, hf9]
  clear hL9 hf9
  refine C.icmp_geI (tgt := 31) dX1_meltAt_10 (by decide) (by omega) (by omega) (fun hc10 => ?_) (fun hc10 => absurd hc10 (by omega))
  refine C.ic dX1_meltAt_31 ?_
  refine C.retI rfl (by first | rfl | (exact (iI_bool (by first | exact Or.inl rfl | exact Or.inr rfl | assumption)).1)) dX1_meltAt_32 (Nat.le_refl _) (Nat.le_refl _) ⟨rfl, rfl, rfl⟩
  skip
set_option maxHeartbeats 1000000 in
theorem t_meltAt {p2 : Nat × Sen} (hd : 31 ≤ d) (h : LtAt L f lt e ps) (hp : ps[i]? = some p) (hp2 : ps[i + 1]? = some p2) (hl : ps.length ≤ 24) : AM yX1_meltAt cX1_meltAt 2 (some .boolean) d 2 13 [.ref lt, .int (iI i)] L f (LtPo L f lt e (some (.int (iI (b2i (canM p.2 p2.2))))) (if canM p.2 p2.2 then mel (ps.map (fun p => p.2)) i p.2 p2.2 else ps.map (fun p => p.2))) := by
  have M0 := lt_size (d := d - 1) h
  have M1 := t_at (d := d - 1) (by omega) h hp
  have M1' := t_at (d := d - 1) (by omega) h hp2
  have hpw := h.2.2 p (List.mem_of_getElem? hp)
  have hpw2 := h.2.2 p2 (List.mem_of_getElem? hp2)
  have hi : i < ps.length := (List.getElem?_eq_some_iff.mp hp).1
  have hi2 : i + 1 < ps.length := (List.getElem?_eq_some_iff.mp hp2).1
  obtain ⟨hpL, -, fs, hfp⟩ := hpw.obj
  have M2 := s_canMelt (d := d - 1) (by omega) (by omega) hpw.a29.1 hpw.a29.2 hpw2.a29.1 hpw2.a29.2
  obtain ⟨D, hS, hx, hD⟩ := hpw
  have M3 := s_melted (d := d - 1) (by omega) hS hx hpw2.a29.1 hpw2.a29.2
  obtain ⟨-, hlt, hflt⟩ := h.1
  obtain ⟨cap, hls⟩ := h.2.1
  obtain ⟨hkL, -, ⟨m, n, hfk⟩, -⟩ := hls.obj
  cases hc : canM p.2 p2.2 with
  | false =>
    rw [hc] at M2
    refine AM.of (by decide +kernel) (by simp [Value.category]) (Nat.le_of_ble_eq_true rfl) false (fun h => by cases h) (fun X C => ?_)
    refine C.iload_n dX1_meltAt_0 rfl ?_
    refine C.ic dX1_meltAt_1 ?_
    refine C.iaddI dX1_meltAt_2 ?_
    refine C.aload_n dX1_meltAt_3 rfl ?_
    refine C.getf gf_X1_12 dX1_meltAt_4 hlt hflt rfl ?_
    refine C.callV (M0) cw_Jx4a65c_size_8abf5 ml_X1_18 im_Jx4a65c_size_8abf5 sl_Jx4a65c_size_8abf5 dX1_meltAt_7 hkL hfk rfl rfl (by omega) (Nat.zero_le _) (Nat.zero_le _) (Nat.le_of_ble_eq_true rfl) rfl (fun r7 L7 f7 hR7 => ?_)
    obtain ⟨rfl, hL9, hf9⟩ := hR7
    rw [hL9, hf9]
    clear hL9 hf9
    refine C.icmp_geI (tgt := 31) dX1_meltAt_10 (by decide) (by omega) (by omega) (fun hc10 => absurd hc10 (by omega)) (fun hc10 => ?_)
    refine C.aload_n dX1_meltAt_13 rfl ?_
    refine C.iload_n dX1_meltAt_14 rfl ?_
    refine C.callV (M1) cw_X1_at ml_X1_36 im_X1_at sl_X1_at dX1_meltAt_15 hlt hflt rfl rfl (by omega) (Nat.zero_le _) (Nat.zero_le _) (Nat.le_of_ble_eq_true rfl) rfl (fun r15 L15 f15 hR15 => ?_)
    obtain ⟨rfl, hL9, hf9⟩ := hR15
    rw [hL9, hf9]
    clear hL9 hf9
    refine C.aload_n dX1_meltAt_18 rfl ?_
    refine C.iload_n dX1_meltAt_19 rfl ?_
    refine C.ic dX1_meltAt_20 ?_
    refine C.iaddI dX1_meltAt_21 ?_
    refine C.callV (M1') cw_X1_at ml_X1_36 im_X1_at sl_X1_at dX1_meltAt_22 hlt hflt rfl rfl (by omega) (Nat.zero_le _) (Nat.zero_le _) (Nat.le_of_ble_eq_true rfl) rfl (fun r22 L22 f22 hR22 => ?_)
    obtain ⟨rfl, hL9, hf9⟩ := hR22
    rw [hL9, hf9]
    clear hL9 hf9
    refine C.callV (M2) cw_X3_canMelt ml_X1_57 im_X3_canMelt sl_X3_canMelt dX1_meltAt_25 hpL hfp rfl rfl (by omega) (Nat.zero_le _) (Nat.zero_le _) (Nat.le_of_ble_eq_true rfl) rfl (fun r25 L25 f25 hR25 => ?_)
    obtain ⟨rfl, hL9, hf9⟩ := hR25
    rw [hL9, hf9]
    clear hL9 hf9
    refine C.if_neI (tgt := 33) dX1_meltAt_28 (by decide) (by decide) (fun hc28 => absurd hc28 (by decide)) (fun hc28 => ?_)
    refine C.ic dX1_meltAt_31 ?_
    refine C.retI rfl (by first | rfl | (exact (iI_bool (by first | exact Or.inl rfl | exact Or.inr rfl | assumption)).1)) dX1_meltAt_32 (Nat.zero_le _) (Nat.zero_le _) ⟨rfl, e, ps, rfl, h, FqL.rf, Or.inl rfl⟩
    skip
  | true =>
    rw [hc] at M2
    refine AM.of (by decide +kernel) (by simp [Value.category]) (Nat.le_of_ble_eq_true rfl) false (fun h => by cases h) (fun X C => ?_)
    refine C.iload_n dX1_meltAt_0 rfl ?_
    refine C.ic dX1_meltAt_1 ?_
    refine C.iaddI dX1_meltAt_2 ?_
    refine C.aload_n dX1_meltAt_3 rfl ?_
    refine C.getf gf_X1_12 dX1_meltAt_4 hlt hflt rfl ?_
    refine C.callV (M0) cw_Jx4a65c_size_8abf5 ml_X1_18 im_Jx4a65c_size_8abf5 sl_Jx4a65c_size_8abf5 dX1_meltAt_7 hkL hfk rfl rfl (by omega) (Nat.zero_le _) (Nat.zero_le _) (Nat.le_of_ble_eq_true rfl) rfl (fun r7 L7 f7 hR7 => ?_)
    obtain ⟨rfl, hL9, hf9⟩ := hR7
    rw [hL9, hf9]
    clear hL9 hf9
    refine C.icmp_geI (tgt := 31) dX1_meltAt_10 (by decide) (by omega) (by omega) (fun hc10 => absurd hc10 (by omega)) (fun hc10 => ?_)
    refine C.aload_n dX1_meltAt_13 rfl ?_
    refine C.iload_n dX1_meltAt_14 rfl ?_
    refine C.callV (M1) cw_X1_at ml_X1_36 im_X1_at sl_X1_at dX1_meltAt_15 hlt hflt rfl rfl (by omega) (Nat.zero_le _) (Nat.zero_le _) (Nat.le_of_ble_eq_true rfl) rfl (fun r15 L15 f15 hR15 => ?_)
    obtain ⟨rfl, hL9, hf9⟩ := hR15
    rw [hL9, hf9]
    clear hL9 hf9
    refine C.aload_n dX1_meltAt_18 rfl ?_
    refine C.iload_n dX1_meltAt_19 rfl ?_
    refine C.ic dX1_meltAt_20 ?_
    refine C.iaddI dX1_meltAt_21 ?_
    refine C.callV (M1') cw_X1_at ml_X1_36 im_X1_at sl_X1_at dX1_meltAt_22 hlt hflt rfl rfl (by omega) (Nat.zero_le _) (Nat.zero_le _) (Nat.le_of_ble_eq_true rfl) rfl (fun r22 L22 f22 hR22 => ?_)
    obtain ⟨rfl, hL9, hf9⟩ := hR22
    rw [hL9, hf9]
    clear hL9 hf9
    refine C.callV (M2) cw_X3_canMelt ml_X1_57 im_X3_canMelt sl_X3_canMelt dX1_meltAt_25 hpL hfp rfl rfl (by omega) (Nat.zero_le _) (Nat.zero_le _) (Nat.le_of_ble_eq_true rfl) rfl (fun r25 L25 f25 hR25 => ?_)
    obtain ⟨rfl, hL9, hf9⟩ := hR25
    rw [hL9, hf9]
    clear hL9 hf9
    refine C.if_neI (tgt := 33) dX1_meltAt_28 (by decide) (by decide) (fun hc28 => ?_) (fun hc28 => absurd hc28 (by decide))
    refine C.aload_n dX1_meltAt_33 rfl ?_
    refine C.getf gf_X1_12 dX1_meltAt_34 hlt hflt rfl ?_
    refine C.iload_n dX1_meltAt_37 rfl ?_
    refine C.aload_n dX1_meltAt_38 rfl ?_
    refine C.iload_n dX1_meltAt_39 rfl ?_
    refine C.callV (M1) cw_X1_at ml_X1_36 im_X1_at sl_X1_at dX1_meltAt_40 hlt hflt rfl rfl (by omega) (Nat.zero_le _) (Nat.zero_le _) (Nat.le_of_ble_eq_true rfl) rfl (fun r40 L40 f40 hR40 => ?_)
    obtain ⟨rfl, hL9, hf9⟩ := hR40
    rw [hL9, hf9]
    clear hL9 hf9
    refine C.aload_n dX1_meltAt_43 rfl ?_
    refine C.iload_n dX1_meltAt_44 rfl ?_
    refine C.ic dX1_meltAt_45 ?_
    refine C.iaddI dX1_meltAt_46 ?_
    refine C.callV (M1') cw_X1_at ml_X1_36 im_X1_at sl_X1_at dX1_meltAt_47 hlt hflt rfl rfl (by omega) (Nat.zero_le _) (Nat.zero_le _) (Nat.le_of_ble_eq_true rfl) rfl (fun r47 L47 f47 hR47 => ?_)
    obtain ⟨rfl, hL9, hf9⟩ := hR47
    rw [hL9, hf9]
    clear hL9 hf9
    refine C.callV (M3) cw_X3_melted ml_X1_61 im_X3_melted sl_X3_melted dX1_meltAt_50 hpL hfp rfl rfl (by omega) (Nat.le_refl _) (Nat.le_refl _) (Nat.le_of_ble_eq_true rfl) rfl (fun r50 L50 f50 hR50 => ?_)
    obtain ⟨q, rfl, hS9, hF9⟩ := hR50
    skip
    have h9 := h.keepO hF9
    have M4 := lt_set (d := d - 1) (x := mlt p.2 p2.2) (by omega) h9 hi ⟨D, hS9, hx.mlt hpw2.a29.2 hc, hD⟩
    obtain ⟨cap9, hls9⟩ := h9.2.1
    obtain ⟨hkL9, -, ⟨m9, n9, hfk9⟩, -⟩ := hls9.obj
    refine C.callV (M4) cw_Jx4a65c_set_bcc79 ml_X1_50 im_Jx4a65c_set_bcc79 sl_Jx4a65c_set_bcc79 dX1_meltAt_53 hkL9 hfk9 rfl rfl (by omega) (Nat.le_refl _) (Nat.le_refl _) (Nat.le_of_ble_eq_true rfl) rfl (fun r53 L53 f53 hR53 => ?_)
    obtain ⟨⟨y, rfl⟩, rfl, hA, hF⟩ := hR53
    refine C.pop dX1_meltAt_56 rfl ?_
    skip
    have M5 := lt_remove (d := d - 1) (i := i + 1) (by omega) hA (by rw [List.length_set]; exact hi2)
    obtain ⟨cap8, hls8⟩ := hA.2.1
    obtain ⟨hkL8, -, ⟨m8, n8, hfk8⟩, -⟩ := hls8.obj
    obtain ⟨-, hlt8, hflt8⟩ := hA.1
    refine C.aload_n dX1_meltAt_57 rfl ?_
    refine C.getf gf_X1_12 dX1_meltAt_58 hlt8 hflt8 rfl ?_
    refine C.iload_n dX1_meltAt_61 rfl ?_
    refine C.ic dX1_meltAt_62 ?_
    refine C.iaddI dX1_meltAt_63 ?_
    refine C.callV (M5) cw_Jx4a65c_remove_915e3 ml_X1_65 im_Jx4a65c_remove_915e3 sl_Jx4a65c_remove_915e3 dX1_meltAt_64 hkL8 hfk8 rfl rfl (by omega) (Nat.le_refl _) (Nat.le_refl _) (Nat.le_of_ble_eq_true rfl) rfl (fun r64 L64 f64 hR64 => ?_)
    obtain ⟨⟨y2, rfl⟩, rfl, hA2, hF2⟩ := hR64
    refine C.pop dX1_meltAt_67 rfl ?_
    refine C.ic dX1_meltAt_68 ?_
    refine C.retI rfl (by first | rfl | (exact (iI_bool (by first | exact Or.inl rfl | exact Or.inr rfl | assumption)).1)) dX1_meltAt_69 (Nat.le_refl _) (Nat.le_refl _) ⟨rfl, e, _, ?_, hA2, (hF9.ql.tr hF (Or.inl rfl)).tr hF2 (Or.inl rfl), Or.inl rfl⟩
    rw [set_take_drop _ _ _ hi, List.map_append, List.map_cons, List.map_take, List.map_drop]
    rfl
theorem t_price (hd : 4 ≤ d) (h : LtAt L f lt e ps) (hl : ps.length ≤ 24) : AM yX1_price cX1_price 4 (some .int) d 0 0 [.ref lt] L f (SP (some (.int (iI (csL (ps.map (fun p => p.2)))))) L f) := by
  have M0 := lt_size (d := d - 1) h
  obtain ⟨-, hlt, hflt⟩ := h.1
  obtain ⟨cap, hls⟩ := h.2.1
  obtain ⟨hkL, -, ⟨m, n, hfk⟩, -⟩ := hls.obj
  refine AM.of (by decide +kernel) (by simp [Value.category]) (Nat.le_of_ble_eq_true rfl) false (fun h => by cases h) (fun X C => ?_)
  have loop : ∀ (n i : Nat), i + n = ps.length → ∀ v3, X 0 0 L f 4 [some (.ref lt), some (.int (iI (csL ((ps.map (fun p => p.2)).take i)))), some (.int (iI i)), v3] [] := by
    intro n
    induction n with
    | zero =>
      intro i hi v3
      rw [List.take_of_length_le (by rw [List.length_map]; omega)]
      refine C.iload_n dX1_price_4 rfl ?_
      refine C.aload_n dX1_price_5 rfl ?_
      refine C.getf gf_X1_12 dX1_price_6 hlt hflt rfl ?_
      refine C.callV (M0) cw_Jx4a65c_size_8abf5 ml_X1_18 im_Jx4a65c_size_8abf5 sl_Jx4a65c_size_8abf5 dX1_price_9 hkL hfk rfl rfl (by omega) (Nat.le_refl _) (Nat.le_refl _) (Nat.le_of_ble_eq_true rfl) rfl (fun r9 L9 f9 hR9 => ?_)
      obtain ⟨rfl, hL9, hf9⟩ := hR9
      rw [hL9, hf9]
      clear hL9 hf9
      refine C.icmp_geI (tgt := 39) dX1_price_12 (by decide) (by omega) (by omega) (fun hc12 => ?_) (fun hc12 => absurd hc12 (by omega))
      refine C.iload_n dX1_price_39 rfl ?_
      refine C.retI rfl (by first | rfl | (exact (iI_bool (by first | exact Or.inl rfl | exact Or.inr rfl | assumption)).1)) dX1_price_40 (Nat.le_refl _) (Nat.le_refl _) ⟨rfl, rfl, rfl⟩
      skip
    | succ n ih =>
      intro i hi v3
      have hpi : ps[i]? = some (ps[i]'(by omega)) := List.getElem?_eq_getElem _
      generalize ps[i]'(by omega) = p at hpi
      have M1 := t_at (d := d - 1) (by omega) h hpi
      obtain ⟨hS, hx⟩ := (h.2.2 p (List.mem_of_getElem? hpi)).a29
      have hlen := hx.1.1.1
      have M2 := s_price (d := d - 1) (n := p.2.1.1.length) (by omega) (by omega) hS hx
      rw [prS_csS hx] at M2
      obtain ⟨⟨hpL, -⟩, e0, w0, u0, hfp, ⟨he, he2, g, hfe, hg⟩, -⟩ := hS
      have nx := ih (i + 1) (by omega)
      have hcs : ((csL ((ps.map (fun p => p.2)).take (i + 1)) : Nat) : Int) = (csL ((ps.map (fun p => p.2)).take i) : Int) + csS p.2 := by
        rw [List.take_add_one, List.getElem?_map, hpi]
        unfold csL
        rw [List.map_append, List.sum_append]
        simp
      rw [hcs] at nx
      refine C.iload_n dX1_price_4 rfl ?_
      refine C.aload_n dX1_price_5 rfl ?_
      refine C.getf gf_X1_12 dX1_price_6 hlt hflt rfl ?_
      refine C.callV (M0) cw_Jx4a65c_size_8abf5 ml_X1_18 im_Jx4a65c_size_8abf5 sl_Jx4a65c_size_8abf5 dX1_price_9 hkL hfk rfl rfl (by omega) (Nat.le_refl _) (Nat.le_refl _) (Nat.le_of_ble_eq_true rfl) rfl (fun r9 L9 f9 hR9 => ?_)
      obtain ⟨rfl, hL9, hf9⟩ := hR9
      rw [hL9, hf9]
      clear hL9 hf9
      refine C.icmp_geI (tgt := 39) dX1_price_12 (by decide) (by omega) (by omega) (fun hc12 => absurd hc12 (by omega)) (fun hc12 => ?_)
      refine C.aload_n dX1_price_15 rfl ?_
      refine C.iload_n dX1_price_16 rfl ?_
      refine C.callV (M1) cw_X1_at ml_X1_36 im_X1_at sl_X1_at dX1_price_17 hlt hflt rfl rfl (by omega) (Nat.le_refl _) (Nat.le_refl _) (Nat.le_of_ble_eq_true rfl) rfl (fun r17 L17 f17 hR17 => ?_)
      obtain ⟨rfl, hL9, hf9⟩ := hR17
      rw [hL9, hf9]
      clear hL9 hf9
      refine C.astore_n dX1_price_20 (by decide) rfl ?_
      refine C.iload_n dX1_price_21 rfl ?_
      refine C.aload_n dX1_price_22 rfl ?_
      refine C.aload_n dX1_price_23 rfl ?_
      refine C.getf gf_X1_43 dX1_price_24 hpL hfp rfl ?_
      refine C.alenI dX1_price_27 he hfe (by decide) ?_
      refine C.callV (M2) cw_X3_price ml_X1_82 im_X3_price sl_X3_price dX1_price_28 hpL hfp rfl rfl (by omega) (Nat.le_refl _) (Nat.le_refl _) (Nat.le_of_ble_eq_true rfl) rfl (fun r28 L28 f28 hR28 => ?_)
      obtain ⟨rfl, hL9, hf9⟩ := hR28
      rw [hL9, hf9]
      clear hL9 hf9
      refine C.iaddI dX1_price_31 ?_
      refine C.istore_n dX1_price_32 (by decide) rfl ?_
      refine C.iincI dX1_price_33 rfl (by decide) rfl ?_
      refine C.goto (tgt := 4) dX1_price_36 (by decide) ?_
      exact nx _
  refine C.ic dX1_price_0 ?_
  refine C.istore_n dX1_price_1 (by decide) rfl ?_
  refine C.ic dX1_price_2 ?_
  refine C.istore_n dX1_price_3 (by decide) rfl ?_
  exact loop ps.length 0 (by omega) _
set_option maxHeartbeats 1000000 in
theorem t_partAt (hd : 7 ≤ d) (h : LtAt L f lt e ps) (hp : ps[i]? = some p) (hl : ps.length ≤ 24) : AM yX1_partAt cX1_partAt 5 (some .boolean) d 9 150 [.ref lt, .int (iI i)] L f (LtPo L f lt e (some (.int (iI (b2i (canP ps.length p.2))))) (if canP ps.length p.2 then prt (ps.map (fun p => p.2)) i p.2 else ps.map (fun p => p.2))) := by
  have M0 := lt_size (d := d - 1) h
  have M1 := t_at (d := d - 1) (by omega) h hp
  have h36 := h.1.1
  have hpw := h.2.2 p (List.mem_of_getElem? hp)
  have hi : i < ps.length := (List.getElem?_eq_some_iff.mp hp).1
  have hpw0 := hpw
  obtain ⟨D, hS, hx, hD⟩ := hpw
  have hlen := hx.1.1.1
  have hlen1 := hx.1.1.2.1
  have hSS := hS
  obtain ⟨⟨hpL, hp2⟩, e0, w0, u0, hfp, ⟨he, he2, g, hfe, hg⟩, -⟩ := hS
  obtain ⟨-, hlt, hflt⟩ := h.1
  obtain ⟨cap, hls⟩ := h.2.1
  obtain ⟨hkL, -, ⟨m, n, hfk⟩, -⟩ := hls.obj
  cases hc : canP ps.length p.2 with
  | false =>
    have hno : ¬ (2 ≤ p.2.1.1.length ∧ ps.length + p.2.1.1.length - 1 ≤ 24) := fun q => by
      unfold canP at hc
      rw [decide_eq_true q.1, decide_eq_true q.2] at hc
      cases hc
    refine AM.of (by decide +kernel) (by simp [Value.category]) (Nat.le_of_ble_eq_true rfl) false (fun h => by cases h) (fun X C => ?_)
    refine C.aload_n dX1_partAt_0 rfl ?_
    refine C.iload_n dX1_partAt_1 rfl ?_
    refine C.callV (M1) cw_X1_at ml_X1_36 im_X1_at sl_X1_at dX1_partAt_2 hlt hflt rfl rfl (by omega) (Nat.zero_le _) (Nat.zero_le _) (Nat.le_of_ble_eq_true rfl) rfl (fun r2 L2 f2 hR2 => ?_)
    obtain ⟨rfl, hL9, hf9⟩ := hR2
    rw [hL9, hf9]
    clear hL9 hf9
    refine C.astore_n dX1_partAt_5 (by decide) rfl ?_
    refine C.aload_n dX1_partAt_6 rfl ?_
    refine C.getf gf_X1_43 dX1_partAt_7 hpL hfp rfl ?_
    refine C.alenI dX1_partAt_10 he hfe (by decide) ?_
    refine C.istore_n dX1_partAt_11 (by decide) rfl ?_
    refine C.iload_n dX1_partAt_12 rfl ?_
    refine C.ic dX1_partAt_13 ?_
    refine C.icmp_ltI (tgt := 33) dX1_partAt_14 (by decide) (by omega) (by omega) (fun hc14 => ?_) (fun hc14 => ?_)
    · refine C.ic dX1_partAt_33 ?_
      refine C.retI rfl (by first | rfl | (exact (iI_bool (by first | exact Or.inl rfl | exact Or.inr rfl | assumption)).1)) dX1_partAt_34 (Nat.zero_le _) (Nat.zero_le _) ⟨rfl, e, ps, rfl, h, FqL.rf, Or.inl rfl⟩
      skip
    · refine C.aload_n dX1_partAt_17 rfl ?_
      refine C.getf gf_X1_12 dX1_partAt_18 hlt hflt rfl ?_
      refine C.callV (M0) cw_Jx4a65c_size_8abf5 ml_X1_18 im_Jx4a65c_size_8abf5 sl_Jx4a65c_size_8abf5 dX1_partAt_21 hkL hfk rfl rfl (by omega) (Nat.zero_le _) (Nat.zero_le _) (Nat.le_of_ble_eq_true rfl) rfl (fun r21 L21 f21 hR21 => ?_)
      obtain ⟨rfl, hL9, hf9⟩ := hR21
      rw [hL9, hf9]
      clear hL9 hf9
      refine C.ic dX1_partAt_24 ?_
      refine C.isubI dX1_partAt_25 ?_
      refine C.iload_n dX1_partAt_26 rfl ?_
      refine C.iaddI dX1_partAt_27 ?_
      refine C.bi dX1_partAt_28 (by decide) ?_
      refine C.icmp_leI (tgt := 35) dX1_partAt_30 (by decide) (by omega) (by omega) (fun hc30 => absurd hc30 (by omega)) (fun hc30 => ?_)
      refine C.ic dX1_partAt_33 ?_
      refine C.retI rfl (by first | rfl | (exact (iI_bool (by first | exact Or.inl rfl | exact Or.inr rfl | assumption)).1)) dX1_partAt_34 (Nat.zero_le _) (Nat.zero_le _) ⟨rfl, e, ps, rfl, h, FqL.rf, Or.inl rfl⟩
      skip
  | true =>
    obtain ⟨q1, q2⟩ : 2 ≤ p.2.1.1.length ∧ ps.length + p.2.1.1.length - 1 ≤ 24 := by
      unfold canP at hc
      rw [Bool.and_eq_true, decide_eq_true_eq, decide_eq_true_eq] at hc
      exact hc
    generalize hys : ps.map (fun p => p.2) = ys at *
    have hyl : ys.length = ps.length := by rw [← hys, List.length_map]
    refine AM.of (by decide +kernel) (by simp [Value.category]) (Nat.le_of_ble_eq_true rfl) false (fun h => by cases h) (fun X C => ?_)
    have loop : ∀ (n j : Nat) (L1 : List Nat) (f1 : Nat → AC) (e1 : Nat) (ps1 : List (Nat × Sen)), 1 ≤ j → j + n = p.2.1.1.length → ps1.map (fun p => p.2) = ys.take i ++ (p.2.1.1.take j).map (wAct p.2) ++ ys.drop (i + 1) → LtAt L1 f1 lt e1 ps1 → Fp L f L1 f1 → FqL (lt + 1) e L f L1 f1 → (e1 = e ∨ (e1 ∉ L ∧ 2000 ≤ e1)) → X (3 * j) (50 * j) L1 f1 52 [some (.ref lt), some (.int (iI i)), some (.ref p.1), some (.int (iI p.2.1.1.length)), some (.int (iI j))] [] := by
      intro n
      induction n with
      | zero =>
        intro j L1 f1 e1 ps1 hj hjn hps hA hFp hF he1
        rw [show p.2.1.1.take j = p.2.1.1 from List.take_of_length_le (by omega)] at hps
        refine C.iload dX1_partAt_52 rfl ?_
        refine C.iload_n dX1_partAt_54 rfl ?_
        refine C.icmp_geI (tgt := 81) dX1_partAt_55 (by decide) (by omega) (by omega) (fun hc55 => ?_) (fun hc55 => absurd hc55 (by omega))
        refine C.ic dX1_partAt_81 ?_
        refine C.retI rfl (by first | rfl | (exact (iI_bool (by first | exact Or.inl rfl | exact Or.inr rfl | assumption)).1)) dX1_partAt_82 (by omega) (by omega) ⟨rfl, e1, ps1, by rw [if_pos rfl]; exact hps, hA, hF, he1⟩
        skip
      | succ n ih =>
        intro j L1 f1 e1 ps1 hj hjn hps hA hFp hF he1
        have hvi : p.2.1.1[j]? = some (p.2.1.1[j]'(by omega)) := List.getElem?_eq_getElem _
        generalize p.2.1.1[j]'(by omega) = v at hvi
        have hSj := hSS.keep hFp
        have M2 := s_withAct (d := d - 1) (by omega) hvi hSj hx
        obtain ⟨⟨hpL1, -⟩, e2, w2, u2, hfp1, -⟩ := hSj
        obtain ⟨-, hlt1, hflt1⟩ := hA.1
        have hl1 : ps1.length + 1 = ps.length + j := by
          have := congrArg List.length hps
          rw [List.length_map, List.length_append, List.length_append, List.length_map, List.length_take, List.length_take, List.length_drop] at this
          omega
        refine C.iload dX1_partAt_52 rfl ?_
        refine C.iload_n dX1_partAt_54 rfl ?_
        refine C.icmp_geI (tgt := 81) dX1_partAt_55 (by decide) (by omega) (by omega) (fun hc55 => absurd hc55 (by omega)) (fun hc55 => ?_)
        refine C.aload_n dX1_partAt_58 rfl ?_
        refine C.getf gf_X1_12 dX1_partAt_59 hlt1 hflt1 rfl ?_
        refine C.iload_n dX1_partAt_62 rfl ?_
        refine C.iload dX1_partAt_63 rfl ?_
        refine C.iaddI dX1_partAt_65 ?_
        refine C.aload_n dX1_partAt_66 rfl ?_
        refine C.iload dX1_partAt_67 rfl ?_
        refine C.callV (M2) cw_X3_withAct ml_X1_47 im_X3_withAct sl_X3_withAct dX1_partAt_69 hpL1 hfp1 rfl rfl (by omega) (by omega) (by omega) (Nat.le_of_ble_eq_true rfl) rfl (fun r69 L69 f69 hR69 => ?_)
        obtain ⟨q, rfl, hS9, hF9⟩ := hR69
        skip
        have h9 := hA.keepO hF9
        have M4 := lt_addAt (d := d - 1) (i := i + j) (x := wAct p.2 v) (by omega) h9 (by omega) (by omega) ⟨D, hS9, hx.wAct (List.mem_of_getElem? hvi), hD⟩
        obtain ⟨cap9, hls9⟩ := h9.2.1
        obtain ⟨hkL9, -, ⟨m9, n9, hfk9⟩, hq9⟩ := hls9.obj
        refine C.callV (M4) cw_Jx4a65c_add_7a177 ml_X1_54 im_Jx4a65c_add_7a177 sl_Jx4a65c_add_7a177 dX1_partAt_72 hkL9 hfk9 rfl rfl (by omega) (by omega) (by omega) (Nat.le_of_ble_eq_true rfl) rfl (fun r72 L72 f72 hR72 => ?_)
        obtain ⟨rfl, e3, hA3, hF3, he3⟩ := hR72
        refine C.iincI dX1_partAt_75 rfl (by decide) rfl ?_
        refine C.goto (tgt := 52) dX1_partAt_78 (by decide) ?_
        skip
        refine C.wide (ce2 := 3 * (j + 1)) (sl2 := 50 * (j + 1)) (by omega) (by omega) ?_
        refine ih (j + 1) _ _ e3 _ (by omega) (by omega) ?_ hA3 ((hFp.tr hF9.p).tr (hF3.p (by omega) hq9)) ((hF.tr hF9.ql he1).tr hF3 he1) ?_
        · have ha : (ys.take i ++ (p.2.1.1.take j).map (wAct p.2)).length = i + j := by
            rw [List.length_append, List.length_take, List.length_map, List.length_take]
            omega
          rw [List.map_append, List.map_cons, List.map_take, List.map_drop, hps, List.take_left' ha, List.drop_left' ha, List.take_add_one, hvi]
          simp
        · rcases he3 with rfl | ⟨h1, h2⟩
          · exact he1
          · exact Or.inr ⟨fun h => h1 (hF9.1 _ (hF.1 _ h)), h2⟩
    have hv0 : p.2.1.1[0]? = some (p.2.1.1[0]'(by omega)) := List.getElem?_eq_getElem _
    generalize p.2.1.1[0]'(by omega) = v0 at hv0
    have M2 := s_withAct (d := d - 1) (by omega) hv0 hSS hx
    refine C.aload_n dX1_partAt_0 rfl ?_
    refine C.iload_n dX1_partAt_1 rfl ?_
    refine C.callV (M1) cw_X1_at ml_X1_36 im_X1_at sl_X1_at dX1_partAt_2 hlt hflt rfl rfl (by omega) (Nat.zero_le _) (Nat.zero_le _) (Nat.le_of_ble_eq_true rfl) rfl (fun r2 L2 f2 hR2 => ?_)
    obtain ⟨rfl, hL9, hf9⟩ := hR2
    rw [hL9, hf9]
    clear hL9 hf9
    refine C.astore_n dX1_partAt_5 (by decide) rfl ?_
    refine C.aload_n dX1_partAt_6 rfl ?_
    refine C.getf gf_X1_43 dX1_partAt_7 hpL hfp rfl ?_
    refine C.alenI dX1_partAt_10 he hfe (by decide) ?_
    refine C.istore_n dX1_partAt_11 (by decide) rfl ?_
    refine C.iload_n dX1_partAt_12 rfl ?_
    refine C.ic dX1_partAt_13 ?_
    refine C.icmp_ltI (tgt := 33) dX1_partAt_14 (by decide) (by omega) (by omega) (fun hc14 => absurd hc14 (by omega)) (fun hc14 => ?_)
    refine C.aload_n dX1_partAt_17 rfl ?_
    refine C.getf gf_X1_12 dX1_partAt_18 hlt hflt rfl ?_
    refine C.callV (M0) cw_Jx4a65c_size_8abf5 ml_X1_18 im_Jx4a65c_size_8abf5 sl_Jx4a65c_size_8abf5 dX1_partAt_21 hkL hfk rfl rfl (by omega) (Nat.zero_le _) (Nat.zero_le _) (Nat.le_of_ble_eq_true rfl) rfl (fun r21 L21 f21 hR21 => ?_)
    obtain ⟨rfl, hL9, hf9⟩ := hR21
    rw [hL9, hf9]
    clear hL9 hf9
    refine C.ic dX1_partAt_24 ?_
    refine C.isubI dX1_partAt_25 ?_
    refine C.iload_n dX1_partAt_26 rfl ?_
    refine C.iaddI dX1_partAt_27 ?_
    refine C.bi dX1_partAt_28 (by decide) ?_
    refine C.icmp_leI (tgt := 35) dX1_partAt_30 (by decide) (by omega) (by omega) (fun hc30 => ?_) (fun hc30 => absurd hc30 (by omega))
    refine C.aload_n dX1_partAt_35 rfl ?_
    refine C.getf gf_X1_12 dX1_partAt_36 hlt hflt rfl ?_
    refine C.iload_n dX1_partAt_39 rfl ?_
    refine C.aload_n dX1_partAt_40 rfl ?_
    refine C.ic dX1_partAt_41 ?_
    refine C.callV (M2) cw_X3_withAct ml_X1_47 im_X3_withAct sl_X3_withAct dX1_partAt_42 hpL hfp rfl rfl (by omega) (by omega) (by omega) (Nat.le_of_ble_eq_true rfl) rfl (fun r42 L42 f42 hR42 => ?_)
    obtain ⟨q, rfl, hS9, hF9⟩ := hR42
    skip
    have h9 := h.keepO hF9
    have M4 := lt_set (d := d - 1) (x := wAct p.2 v0) (by omega) h9 hi ⟨D, hS9, hx.wAct (List.mem_of_getElem? hv0), hD⟩
    obtain ⟨cap9, hls9⟩ := h9.2.1
    obtain ⟨hkL9, -, ⟨m9, n9, hfk9⟩, hq9⟩ := hls9.obj
    refine C.callV (M4) cw_Jx4a65c_set_bcc79 ml_X1_50 im_Jx4a65c_set_bcc79 sl_Jx4a65c_set_bcc79 dX1_partAt_45 hkL9 hfk9 rfl rfl (by omega) (by omega) (by omega) (Nat.le_of_ble_eq_true rfl) rfl (fun r45 L45 f45 hR45 => ?_)
    obtain ⟨⟨y, rfl⟩, rfl, hA, hF⟩ := hR45
    refine C.pop dX1_partAt_48 rfl ?_
    refine C.ic dX1_partAt_49 ?_
    refine C.istore dX1_partAt_50 (by decide) rfl ?_
    skip
    refine C.wide (ce2 := 3 * 1) (sl2 := 50 * 1) (by omega) (by omega) ?_
    refine loop (p.2.1.1.length - 1) 1 _ _ e _ (by omega) (by omega) ?_ hA (hF9.p.tr (hF.p (by omega) hq9)) (hF9.ql.tr hF (Or.inl rfl)) (Or.inl rfl)
    rw [List.map_set, hys, List.take_add_one, hv0, List.set_eq_take_append_cons_drop, if_pos (by omega)]
    simp
end LETT2
