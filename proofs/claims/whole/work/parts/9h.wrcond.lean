/-! conditions, written by the class -/
def pT (kd : Int) (x : TT) (f : Bool) : List Int := if knd x < kd then sp f ++ [40] ++ wt x 0 false ++ [41] else wt x 0 f
theorem pT_3 {x : TT} (hx : isT x) (f : Bool) : pT 2 x f = wt x 3 f := by
  unfold pT
  rcases isT_small hx with ⟨n, h5, rfl⟩ | ⟨c, h5, rfl⟩ | ⟨a, b, h5, h6, rfl⟩ | ⟨a, b, h5, h6, rfl⟩
  · rfl
  · rfl
  · simp [knd, wt]
  · simp [knd, wt]
theorem pT_1 {x : TT} (hx : isT x) (f : Bool) (hk : knd x ≠ 1) : pT 1 x f = wt x 1 f := by
  unfold pT
  rcases isT_small hx with ⟨n, h5, rfl⟩ | ⟨c, h5, rfl⟩ | ⟨a, b, h5, h6, rfl⟩ | ⟨a, b, h5, h6, rfl⟩
  · rfl
  · rfl
  · exact absurd rfl hk
  · simp [knd, wt]
theorem pT_0 {x : TT} (hx : isT x) (f : Bool) : pT 0 x f = wt x 2 f := by
  unfold pT
  rcases isT_small hx with ⟨n, h5, rfl⟩ | ⟨c, h5, rfl⟩ | ⟨a, b, h5, h6, rfl⟩ | ⟨a, b, h5, h6, rfl⟩
  · rfl
  · rfl
  · simp [knd, wt]
  · simp [knd, wt]
theorem andL_knd (t : TT) : ∀ x ∈ andL t, knd x ≠ 1 := by
  induction t with
  | and a b iha ihb =>
    intro x hx
    rcases List.mem_append.mp (show x ∈ andL a ++ andL b from hx) with h | h
    · exact iha x h
    · exact ihb x h
  | _ =>
    intro x hx
    rw [List.mem_singleton.mp hx]
    simp [knd]
theorem jn_pos {z : List Int} {m : Nat} {f : Bool} {xs : List TT} (h : ∀ x ∈ xs, isT x) : xs.length ≤ (jn z m f xs).length := by
  cases xs with
  | nil => exact Nat.zero_le _
  | cons x xs =>
    have h0 := wt_len x (h x List.mem_cons_self) m f
    have h1 : ∀ ys : List TT, (∀ y ∈ ys, isT y) → ys.length ≤ (jt z m ys).length := by
      intro ys
      induction ys with
      | nil => intro _; exact Nat.zero_le _
      | cons y ys ih =>
        intro hy
        have h2 := ih (fun q hq => hy q (List.mem_cons_of_mem _ hq))
        show ys.length + 1 ≤ ((32 :: z ++ wt y m true) ++ jt z m ys).length
        rw [List.length_append, List.length_append, List.length_cons]
        omega
    have h2 := h1 xs (fun q hq => h q (List.mem_cons_of_mem _ hq))
    show xs.length + 1 ≤ (wt x m f ++ jt z m xs).length
    rw [List.length_append]
    omega
section WRC
variable {L : List Nat} {g : Nat → AC}
/-- writeCond writes all conditions less than D deep -/
def WcD (L : List Nat) (g : Nat → AC) (D : Nat) : Prop := ∀ {d dp q : Nat} {t : TT} {c : SF} {a : SA} {T : List Int} {bo : Bool}, 2 * D + 6 ≤ d → dp + D ≤ 41 → isT t → CAt L g D q t → WS c a T → c 112 = b2i bo → T.length + (wt t 0 (!bo && decide (0 < T.length))).length ≤ 14000 → KA yX7_writeCond cX7_writeCond 4 none d [.ref 11, .ref q, .int (iI dp)] L g c a (WP c a (T ++ wt t 0 (!bo && decide (0 < T.length))) false)
theorem CAt.kvo {D q : Nat} {t : TT} {c : SF} {a : SA} (h : CAt L g D q t) : q ∈ L ∧ ∃ p, kv c a g q = .inr (3, CO t p) := by
  obtain ⟨h1, h2, p, h3⟩ := h.obj
  exact ⟨h1, p, (kv_ge (by omega)).trans h3⟩
theorem w_piece {D d dp q : Nat} {kd : Int} {x : TT} {c : SF} {a : SA} {T : List Int} {bo : Bool} (hW0 : WcD L g D) (hL : ∀ k, k < 36 → k ∈ L) (hd : 2 * D + 7 ≤ d) (hdp : dp + 1 + D ≤ 41) (hkd : kd = 0 ∨ kd = 1 ∨ kd = 2) (hx : isT x) (hC : CAt L g D q x) (hW : WS c a T) (h112 : c 112 = b2i bo) (hl : T.length + (pT kd x (!bo && decide (0 < T.length))).length ≤ 14000) : KA yX7_writePiece cX7_writePiece 5 none d [.ref 11, .ref q, .int (iI kd), .int (iI dp)] L g c a (WP c a (T ++ pT kd x (!bo && decide (0 < T.length))) false) := by
  have hk := knd_rng hx
  obtain ⟨hqL, p0, hf0⟩ := hC.kvo (c := c) (a := a)
  by_cases hlo : knd x < kd
  · have hpe : pT kd x (!bo && decide (0 < T.length)) = sp (!bo && decide (0 < T.length)) ++ [40] ++ wt x 0 false ++ [41] := by unfold pT; rw [if_pos hlo]
    rw [hpe] at hl
    simp only [List.length_append, List.length_cons, List.length_nil] at hl
    have M0 := w_blank (d := d - 1) (g := g) (by omega) hL hW h112 (by omega)
    have hTa : ∀ F, (T ++ sp F ++ [40]).length = T.length + (sp F).length + 1 := fun F => by rw [List.length_append, List.length_append]; rfl
    rw [hpe]
    generalize (!bo && decide (0 < T.length)) = F at *
    refine KA.of (by decide +kernel) rfl (Nat.le_of_ble_eq_true rfl) (fun X C => ?_)
    refine C.aload_n dX7_writePiece_0 rfl ?_
    refine C.getf gf_X7_89 dX7_writePiece_1 hqL hf0 rfl ?_
    refine C.iload_n dX7_writePiece_4 rfl ?_
    refine C.icmp_geI (tgt := 12) dX7_writePiece_5 (by decide) (by omega) (by omega) (fun hc5 => absurd hc5 (by omega)) (fun hc5 => ?_)
    refine C.ic dX7_writePiece_8 ?_
    refine C.goto (tgt := 13) dX7_writePiece_9 (by decide) ?_
    refine C.istore dX7_writePiece_13 (by decide) rfl ?_
    refine C.iload dX7_writePiece_15 rfl ?_
    refine C.if_eqI (tgt := 35) dX7_writePiece_17 (by decide) (by decide) (fun hc17 => absurd hc17 (by decide)) (fun hc17 => ?_)
    refine C.aload_n dX7_writePiece_20 rfl ?_
    refine C.kcall (M0) cw_X7_blank ml_X7_105 im_X7_blank sl_X7_blank dX7_writePiece_21 (hL _ (by decide)) rfl rfl rfl (by omega) (Nat.le_refl _) (Nat.le_refl _) (Nat.le_of_ble_eq_true rfl) rfl (fun r21 c21 a21 hR21 => ?_)
    obtain ⟨rfl, q1, q2, q3⟩ := hR21
    skip
    have M1 := w_put (d := d - 1) (g := g) (z := 40) (by decide) hL q1 q2 (by rw [List.length_append]; omega)
    refine C.aload_n dX7_writePiece_24 rfl ?_
    refine C.bi dX7_writePiece_25 (by decide) ?_
    refine C.kcall (M1) cw_X7_put ml_X7_30 im_X7_put sl_X7_put dX7_writePiece_27 (hL _ (by decide)) rfl rfl rfl (by omega) (Nat.le_refl _) (Nat.le_refl _) (Nat.le_of_ble_eq_true rfl) rfl (fun r27 c27 a27 hR27 => ?_)
    obtain ⟨rfl, y1, y2, y3⟩ := hR27
    refine C.aload_n dX7_writePiece_30 rfl ?_
    refine C.ic dX7_writePiece_31 ?_
    refine C.kput_112 hL pf_X7_21 dX7_writePiece_32 (by first | exact Or.inl rfl | exact Or.inr rfl | assumption) ?_
    skip
    have y1' : WS (va_up c27 112 1) a27 (T ++ sp F ++ [40]) := y1
    have hG2 : GW c (va_up c27 112 1) a a27 := ⟨fun j u v => (va_up_ne _ _ v).trans ((q3.tr y3).1 j u v), (q3.tr y3).2⟩
    have M2 := hW0 (d := d - 1) (dp := dp + 1) (bo := true) (by omega) (by omega) hx hC y1' rfl (by rw [hTa]; show _ + (wt x 0 false).length ≤ 14000; omega)
    change KA yX7_writeCond cX7_writeCond 4 none (d - 1) [.ref 11, .ref q, .int (iI ((dp + 1 : Nat) : Int))] L g (va_up c27 112 1) a27 (WP (va_up c27 112 1) a27 (T ++ sp F ++ [40] ++ wt x 0 false) false) at M2
    refine C.aload_n dX7_writePiece_35 rfl ?_
    refine C.aload_n dX7_writePiece_36 rfl ?_
    refine C.iload_n dX7_writePiece_37 rfl ?_
    refine C.ic dX7_writePiece_38 ?_
    refine C.iaddI dX7_writePiece_39 ?_
    refine C.kcall (M2) cw_X7_writeCond ml_X7_53 im_X7_writeCond sl_X7_writeCond dX7_writePiece_40 (hL _ (by decide)) rfl rfl rfl (by omega) (Nat.le_refl _) (Nat.le_refl _) (Nat.le_of_ble_eq_true rfl) rfl (fun r40 c40 a40 hR40 => ?_)
    obtain ⟨rfl, x1, x2, x3⟩ := hR40
    refine C.iload dX7_writePiece_43 rfl ?_
    refine C.if_eqI (tgt := 54) dX7_writePiece_45 (by decide) (by decide) (fun hc45 => absurd hc45 (by decide)) (fun hc45 => ?_)
    skip
    have M3 := w_put (d := d - 1) (g := g) (z := 41) (by decide) hL x1 x2 (by rw [List.length_append, hTa]; omega)
    refine C.aload_n dX7_writePiece_48 rfl ?_
    refine C.bi dX7_writePiece_49 (by decide) ?_
    refine C.kcall (M3) cw_X7_put ml_X7_30 im_X7_put sl_X7_put dX7_writePiece_51 (hL _ (by decide)) rfl rfl rfl (by omega) (Nat.le_refl _) (Nat.le_refl _) (Nat.le_of_ble_eq_true rfl) rfl (fun r51 c51 a51 hR51 => ?_)
    obtain ⟨rfl, z1, z2, z3⟩ := hR51
    refine C.vret rfl dX7_writePiece_54 (Nat.le_refl _) (Nat.le_refl _) ⟨_, _, ?_, rfl, rfl⟩
    refine ⟨rfl, ?_, z2, (hG2.tr x3).tr z3⟩
    have e : T ++ (sp F ++ [40] ++ wt x 0 false ++ [41]) = T ++ sp F ++ [40] ++ wt x 0 false ++ [41] := by simp only [List.append_assoc]
    rw [e]
    exact z1
  · have hpe : pT kd x (!bo && decide (0 < T.length)) = wt x 0 (!bo && decide (0 < T.length)) := by unfold pT; rw [if_neg hlo]
    rw [hpe] at hl ⊢
    have M2 := hW0 (d := d - 1) (dp := dp + 1) (by omega) (by omega) hx hC hW h112 hl
    refine KA.of (by decide +kernel) rfl (Nat.le_of_ble_eq_true rfl) (fun X C => ?_)
    refine C.aload_n dX7_writePiece_0 rfl ?_
    refine C.getf gf_X7_89 dX7_writePiece_1 hqL hf0 rfl ?_
    refine C.iload_n dX7_writePiece_4 rfl ?_
    refine C.icmp_geI (tgt := 12) dX7_writePiece_5 (by decide) (by omega) (by omega) (fun hc5 => ?_) (fun hc5 => absurd hc5 (by omega))
    refine C.ic dX7_writePiece_12 ?_
    refine C.istore dX7_writePiece_13 (by decide) rfl ?_
    refine C.iload dX7_writePiece_15 rfl ?_
    refine C.if_eqI (tgt := 35) dX7_writePiece_17 (by decide) (by decide) (fun hc17 => ?_) (fun hc17 => absurd hc17 (by decide))
    refine C.aload_n dX7_writePiece_35 rfl ?_
    refine C.aload_n dX7_writePiece_36 rfl ?_
    refine C.iload_n dX7_writePiece_37 rfl ?_
    refine C.ic dX7_writePiece_38 ?_
    refine C.iaddI dX7_writePiece_39 ?_
    refine C.kcall (M2) cw_X7_writeCond ml_X7_53 im_X7_writeCond sl_X7_writeCond dX7_writePiece_40 (hL _ (by decide)) rfl rfl rfl (by omega) (Nat.le_refl _) (Nat.le_refl _) (Nat.le_of_ble_eq_true rfl) rfl (fun r40 c40 a40 hR40 => ?_)
    obtain ⟨rfl, x1, x2, x3⟩ := hR40
    refine C.iload dX7_writePiece_43 rfl ?_
    refine C.if_eqI (tgt := 54) dX7_writePiece_45 (by decide) (by decide) (fun hc45 => ?_) (fun hc45 => absurd hc45 (by decide))
    refine C.vret rfl dX7_writePiece_54 (Nat.le_refl _) (Nat.le_refl _) ⟨_, _, ?_, rfl, rfl⟩
    exact ⟨rfl, x1, x2, x3⟩
set_option maxRecDepth 20000 in
set_option maxHeartbeats 4000000 in
theorem w_cond (hL : ∀ k, k < 36 → k ∈ L) : ∀ D : Nat, WcD L g D := by
  intro D
  induction D with
  | zero => intro d dp q t c a T bo _ _ _ h; exact h.elim
  | succ D ih =>
    intro d dp q t c a T bo hd hdp ht hC hW h112 hl
    have hCC := hC
    obtain ⟨⟨hq2, hqL⟩, p, gr, hfq, ⟨hp2, hpL⟩, hfp, hel⟩ := hC
    have hfq' : ∀ c a, kv c a g q = .inr (3, CO t p) := fun c a => (kv_ge (by omega)).trans hfq
    have hfp' : ∀ c a, kv c a g p = aC (pcs t).length gr := fun c a => (kv_ge (by omega)).trans hfp
    have hk := knd_rng ht
    obtain ⟨-, tx⟩ := cd_pcs ht
    have hT15 := hW.2.2
    rcases isT_small ht with ⟨n, h5, rfl⟩ | ⟨cc, h5, rfl⟩ | hrow
    · -- a case
      have hk3 : knd (Cond.count n) = 3 := rfl
      have hp0 : (pcs (Cond.count n)).length = 0 := rfl
      change T.length + (sp (!bo && decide (0 < T.length)) ++ zCase ++ [32, 48 + (n : Int)]).length ≤ 14000 at hl
      simp only [List.length_append, List.length_cons, List.length_nil] at hl
      have M1 := w_word (d := d - 1) (g := g) (w := 15) (by omega) (by omega) hL hW h112 (by omega)
      have hT1 : (T ++ (sp (!bo && decide (0 < T.length)) ++ zW.getD 15 [])).length = T.length + ((sp (!bo && decide (0 < T.length))).length + 4) := by rw [List.length_append, List.length_append]; rfl
      have hwt : T ++ wt (.count n) 0 (!bo && decide (0 < T.length)) = (T ++ (sp (!bo && decide (0 < T.length)) ++ zW.getD 15 [])) ++ (sp true ++ dgL n) := by
        rw [dgL_1 (by omega)]
        show T ++ (sp (!bo && decide (0 < T.length)) ++ zCase ++ [32, 48 + (n : Int)]) = (T ++ (sp (!bo && decide (0 < T.length)) ++ zCase)) ++ ([32] ++ [48 + (n : Int)])
        simp only [List.append_assoc]
        rfl
      rw [hwt]
      generalize (!bo && decide (0 < T.length)) = F at *
      refine KA.of (by decide +kernel) rfl (Nat.le_of_ble_eq_true rfl) (fun X C => ?_)
      refine C.iload_n dX7_writeCond_0 rfl ?_
      refine C.bi dX7_writeCond_1 (by decide) ?_
      refine C.icmp_leI (tgt := 7) dX7_writeCond_3 (by decide) (by omega) (by omega) (fun hc3 => ?_) (fun hc3 => absurd hc3 (by omega))
      refine C.aload_n dX7_writeCond_7 rfl ?_
      refine C.getf gf_X7_89 dX7_writeCond_8 hqL (hfq' _ _) rfl ?_
      refine C.ic dX7_writeCond_11 ?_
      refine C.icmp_neI (tgt := 32) dX7_writeCond_12 (by decide) (by omega) (by decide) (fun hc12 => absurd hc12 (fun h => h rfl)) (fun hc12 => ?_)
      refine C.aload_n dX7_writeCond_15 rfl ?_
      refine C.bi dX7_writeCond_16 (by decide) ?_
      refine C.kcall (M1) cw_X7_writeWord ml_X7_50 im_X7_writeWord sl_X7_writeWord dX7_writeCond_18 (hL _ (by decide)) rfl rfl rfl (by omega) (Nat.le_refl _) (Nat.le_refl _) (Nat.le_of_ble_eq_true rfl) rfl (fun r18 c18 a18 hR18 => ?_)
      obtain ⟨rfl, q1, q2, q3⟩ := hR18
      skip
      have M2 := w_number (d := d - 1) (g := g) (v := n) (by omega) (by omega) hL q1 q2 (by omega)
      rw [show (!false && decide (0 < (T ++ (sp F ++ zW.getD 15 [])).length)) = true from fl1 (by omega)] at M2
      refine C.aload_n dX7_writeCond_21 rfl ?_
      refine C.aload_n dX7_writeCond_22 rfl ?_
      refine C.getf gf_X7_94 dX7_writeCond_23 hqL (hfq' _ _) rfl ?_
      refine C.kcall (M2) cw_X7_writeNumber ml_X7_86 im_X7_writeNumber sl_X7_writeNumber dX7_writeCond_26 (hL _ (by decide)) rfl rfl rfl (by omega) (Nat.le_refl _) (Nat.le_refl _) (Nat.le_of_ble_eq_true rfl) rfl (fun r26 c26 a26 hR26 => ?_)
      obtain ⟨rfl, y1, y2, y3⟩ := hR26
      refine C.goto (tgt := 45) dX7_writeCond_29 (by decide) ?_
      refine C.ic dX7_writeCond_45 ?_
      refine C.istore_n dX7_writeCond_46 (by decide) rfl ?_
      refine C.iload_n dX7_writeCond_47 rfl ?_
      refine C.aload_n dX7_writeCond_48 rfl ?_
      refine C.getf gf_X7_97 dX7_writeCond_49 hqL (hfq' _ _) rfl ?_
      refine C.alenI dX7_writeCond_52 hpL (hfp' _ _) (by decide) ?_
      refine C.icmp_geI (tgt := 100) dX7_writeCond_53 (by decide) (by decide) (by omega) (fun hc53 => ?_) (fun hc53 => absurd hc53 (by omega))
      refine C.vret rfl dX7_writeCond_100 (Nat.le_refl _) (Nat.le_refl _) ⟨_, _, ?_, rfl, rfl⟩
      exact ⟨rfl, y1, y2, q3.tr y3⟩
    · -- a not
      have hk3 : knd (Cond.not cc) = 2 := rfl
      have hp0 : (pcs (Cond.not cc)).length = 1 := rfl
      change T.length + (sp (!bo && decide (0 < T.length)) ++ zNot ++ wt cc 3 true).length ≤ 14000 at hl
      simp only [List.length_append, List.length_cons, List.length_nil] at hl
      have M1 := w_word (d := d - 1) (g := g) (w := 4) (by omega) (by omega) hL hW h112 (by omega)
      have hT1 : (T ++ (sp (!bo && decide (0 < T.length)) ++ zW.getD 4 [])).length = T.length + ((sp (!bo && decide (0 < T.length))).length + 3) := by rw [List.length_append, List.length_append]; rfl
      have hwt : T ++ wt (.not cc) 0 (!bo && decide (0 < T.length)) = (T ++ (sp (!bo && decide (0 < T.length)) ++ zW.getD 4 [])) ++ pT 2 cc true := by
        rw [pT_3 h5]
        show T ++ (sp (!bo && decide (0 < T.length)) ++ zNot ++ wt cc 3 true) = (T ++ (sp (!bo && decide (0 < T.length)) ++ zNot)) ++ wt cc 3 true
        simp only [List.append_assoc]
      have hpl : (pT 2 cc true).length = (wt cc 3 true).length := by rw [pT_3 h5]
      rw [hwt]
      generalize (!bo && decide (0 < T.length)) = F at *
      obtain ⟨q0, hg0, hC0⟩ := hel 0 cc rfl
      refine KA.of (by decide +kernel) rfl (Nat.le_of_ble_eq_true rfl) (fun X C => ?_)
      refine C.iload_n dX7_writeCond_0 rfl ?_
      refine C.bi dX7_writeCond_1 (by decide) ?_
      refine C.icmp_leI (tgt := 7) dX7_writeCond_3 (by decide) (by omega) (by omega) (fun hc3 => ?_) (fun hc3 => absurd hc3 (by omega))
      refine C.aload_n dX7_writeCond_7 rfl ?_
      refine C.getf gf_X7_89 dX7_writeCond_8 hqL (hfq' _ _) rfl ?_
      refine C.ic dX7_writeCond_11 ?_
      refine C.icmp_neI (tgt := 32) dX7_writeCond_12 (by decide) (by omega) (by decide) (fun hc12 => ?_) (fun hc12 => absurd hc12 (by omega))
      refine C.aload_n dX7_writeCond_32 rfl ?_
      refine C.getf gf_X7_89 dX7_writeCond_33 hqL (hfq' _ _) rfl ?_
      refine C.ic dX7_writeCond_36 ?_
      refine C.icmp_neI (tgt := 45) dX7_writeCond_37 (by decide) (by omega) (by decide) (fun hc37 => absurd hc37 (fun h => h rfl)) (fun hc37 => ?_)
      refine C.aload_n dX7_writeCond_40 rfl ?_
      refine C.ic dX7_writeCond_41 ?_
      refine C.kcall (M1) cw_X7_writeWord ml_X7_50 im_X7_writeWord sl_X7_writeWord dX7_writeCond_42 (hL _ (by decide)) rfl rfl rfl (by omega) (Nat.le_refl _) (Nat.le_refl _) (Nat.le_of_ble_eq_true rfl) rfl (fun r42 c42 a42 hR42 => ?_)
      obtain ⟨rfl, q1, q2, q3⟩ := hR42
      skip
      have M2 := w_piece (d := d - 1) (dp := dp) (kd := 2) ih hL (by omega) (by omega) (Or.inr (Or.inr rfl)) h5 hC0 q1 q2 (by rw [show (!false && decide (0 < (T ++ (sp F ++ zW.getD 4 [])).length)) = true from fl1 (by omega), hpl, hT1]; omega)
      rw [show (!false && decide (0 < (T ++ (sp F ++ zW.getD 4 [])).length)) = true from fl1 (by omega)] at M2
      refine C.ic dX7_writeCond_45 ?_
      refine C.istore_n dX7_writeCond_46 (by decide) rfl ?_
      skip
      refine C.iload_n dX7_writeCond_47 rfl ?_
      refine C.aload_n dX7_writeCond_48 rfl ?_
      refine C.getf gf_X7_97 dX7_writeCond_49 hqL (hfq' _ _) rfl ?_
      refine C.alenI dX7_writeCond_52 hpL (hfp' _ _) (by decide) ?_
      refine C.icmp_geI (tgt := 100) dX7_writeCond_53 (by decide) (by decide) (by omega) (fun hc53 => absurd hc53 (by omega)) (fun hc53 => ?_)
      refine C.iload_n dX7_writeCond_56 rfl ?_
      refine C.if_leI (tgt := 79) dX7_writeCond_57 (by decide) (by decide) (fun hc57 => ?_) (fun hc57 => absurd hc57 (by decide))
      refine C.aload_n dX7_writeCond_79 rfl ?_
      refine C.aload_n dX7_writeCond_80 rfl ?_
      refine C.getf gf_X7_97 dX7_writeCond_81 hqL (hfq' _ _) rfl ?_
      refine C.iload_n dX7_writeCond_84 rfl ?_
      refine C.aald4 dX7_writeCond_85 hpL (hfp' _ _) (iI_in (by omega) (show (0 : Int) < ((1 : Nat) : Int) by omega) (show 1 < 2147483648 by omega)) ?_
      rw [iI_clamp (by omega), show ((0 : Int).toNat) = 0 from rfl, hg0]
      refine C.aload_n dX7_writeCond_86 rfl ?_
      refine C.getf gf_X7_89 dX7_writeCond_87 hqL (hfq' _ _) rfl ?_
      refine C.iload_n dX7_writeCond_90 rfl ?_
      refine C.kcall (M2) cw_X7_writePiece ml_X7_101 im_X7_writePiece sl_X7_writePiece dX7_writeCond_91 (hL _ (by decide)) rfl rfl rfl (by omega) (Nat.le_refl _) (Nat.le_refl _) (Nat.le_of_ble_eq_true rfl) rfl (fun r91 c91 a91 hR91 => ?_)
      obtain ⟨rfl, y1, y2, y3⟩ := hR91
      refine C.iincI dX7_writeCond_94 rfl (by decide) rfl ?_
      refine C.goto (tgt := 47) dX7_writeCond_97 (by decide) ?_
      skip
      refine C.iload_n dX7_writeCond_47 rfl ?_
      refine C.aload_n dX7_writeCond_48 rfl ?_
      refine C.getf gf_X7_97 dX7_writeCond_49 hqL (hfq' _ _) rfl ?_
      refine C.alenI dX7_writeCond_52 hpL (hfp' _ _) (by decide) ?_
      refine C.icmp_geI (tgt := 100) dX7_writeCond_53 (by decide) (by decide) (by omega) (fun hc53 => ?_) (fun hc53 => absurd hc53 (by omega))
      refine C.vret rfl dX7_writeCond_100 (Nat.le_refl _) (Nat.le_refl _) ⟨_, _, ?_, rfl, rfl⟩
      exact ⟨rfl, y1, y2, q3.tr y3⟩
    · -- a row
      obtain ⟨kd, z, m, w0, hkd, hkk, hw0, hzz, hwt, hpt, hne⟩ : ∃ (kd : Int) (z : List Int) (m w0 : Nat), (kd = 0 ∨ kd = 1) ∧ knd t = kd ∧ ((kd = 1 ∧ w0 = 7) ∨ (kd = 0 ∧ w0 = 8)) ∧ zW.getD w0 [] = z ∧ (∀ f, wt t 0 f = jn z m f (pcs t)) ∧ (∀ x ∈ pcs t, ∀ f, pT kd x f = wt x m f) ∧ pcs t ≠ [] := by
        rcases hrow with ⟨a1, b1, h5, h6, rfl⟩ | ⟨a1, b1, h5, h6, rfl⟩
        · refine ⟨1, zAnd, 1, 7, Or.inr rfl, rfl, Or.inl ⟨rfl, rfl⟩, rfl, fun f => ?_, fun x hx f => pT_1 (tx x hx) f (andL_knd _ x hx), andL_ne _⟩
          rw [show pcs (.and a1 b1) = andL (.and a1 b1) from rfl, ← wt_and]
          simp [wt]
        · refine ⟨0, zOr, 2, 8, Or.inl rfl, rfl, Or.inr ⟨rfl, rfl⟩, rfl, fun f => ?_, fun x hx f => pT_0 (tx x hx) f, orL_ne _⟩
          rw [show pcs (.or a1 b1) = orL (.or a1 b1) from rfl, ← wt_or]
          simp [wt]
      rw [hwt] at hl ⊢
      generalize hF : (!bo && decide (0 < T.length)) = F at *
      have hzl : z.length ≤ 3 := by rcases hw0 with ⟨-, rfl⟩ | ⟨-, rfl⟩ <;> (rw [← hzz]; decide)
      have hpn : (pcs t).length < 15000 := by
        have := jn_pos (z := z) (m := m) (f := F) tx
        omega
      generalize hxs : pcs t = xs at *
      refine KA.of (by decide +kernel) rfl (Nat.le_of_ble_eq_true rfl) (fun X C => ?_)
      have loop : ∀ (ys done : List TT) (c1 : SF) (a1 : SA) (bo1 : Bool), xs = done ++ ys → WS c1 a1 (T ++ jn z m F done) → c1 112 = b2i bo1 → (done = [] → bo1 = bo) → (done ≠ [] → bo1 = false) → GW c c1 a a1 → X 0 0 L (kv c1 a1 g) 47 [some (.ref 11), some (.ref q), some (.int (iI dp)), some (.int (iI done.length))] [] := by
        intro ys
        induction ys with
        | nil =>
          intro done c1 a1 bo1 hdn hW1 h1 hb1 hb2 hG
          rw [List.append_nil] at hdn
          have hne1 : done ≠ [] := by rw [← hdn]; exact hne
          have hll : xs.length = done.length := by rw [hdn]
          refine C.iload_n dX7_writeCond_47 rfl ?_
          refine C.aload_n dX7_writeCond_48 rfl ?_
          refine C.getf gf_X7_97 dX7_writeCond_49 hqL (hfq' _ _) rfl ?_
          refine C.alenI dX7_writeCond_52 hpL (hfp' _ _) (by decide) ?_
          refine C.icmp_geI (tgt := 100) dX7_writeCond_53 (by decide) (by omega) (by omega) (fun hc53 => ?_) (fun hc53 => absurd hc53 (by omega))
          refine C.vret rfl dX7_writeCond_100 (Nat.le_refl _) (Nat.le_refl _) ⟨_, _, ?_, rfl, rfl⟩
          exact ⟨rfl, by rw [hdn]; exact hW1, by rw [h1, hb2 hne1], hG⟩
        | cons y ys ihy =>
          intro done c1 a1 bo1 hdn hW1 h1 hb1 hb2 hG
          have hll : xs.length = done.length + (ys.length + 1) := by rw [hdn, List.length_append, List.length_cons]
          have hyi : xs[done.length]? = some y := by rw [hdn, List.getElem?_append_right (Nat.le_refl _), Nat.sub_self]; rfl
          obtain ⟨qy, hgy, hCy⟩ := hel _ y hyi
          have hym := List.mem_of_getElem? hyi
          have hyT := tx y hym
          have nx := ihy (done ++ [y])
          have hdn2 : xs = (done ++ [y]) ++ ys := by rw [hdn, List.append_assoc]; rfl
          rw [List.length_append] at nx
          cases done with
          | nil =>
            have hbb : bo1 = bo := hb1 rfl
            subst hbb
            change WS c1 a1 (T ++ []) at hW1
            rw [List.append_nil] at hW1
            have hlen1 : (wt y m F).length ≤ (jn z m F xs).length := by
              rw [hdn]
              show _ ≤ (wt y m F ++ jt z m ys).length
              rw [List.length_append]
              omega
            have M := w_piece (d := d - 1) (dp := dp) (kd := kd) ih hL (by omega) (by omega) (by omega) hyT hCy hW1 h1 (by rw [hF, hpt y hym]; omega)
            rw [hF, hpt y hym] at M
            refine C.iload_n dX7_writeCond_47 rfl ?_
            refine C.aload_n dX7_writeCond_48 rfl ?_
            refine C.getf gf_X7_97 dX7_writeCond_49 hqL (hfq' _ _) rfl ?_
            refine C.alenI dX7_writeCond_52 hpL (hfp' _ _) (by decide) ?_
            refine C.icmp_geI (tgt := 100) dX7_writeCond_53 (by decide) (by decide) (by omega) (fun hc53 => absurd hc53 (by omega)) (fun hc53 => ?_)
            refine C.iload_n dX7_writeCond_56 rfl ?_
            refine C.if_leI (tgt := 79) dX7_writeCond_57 (by decide) (by decide) (fun hc57 => ?_) (fun hc57 => absurd hc57 (by decide))
            refine C.aload_n dX7_writeCond_79 rfl ?_
            refine C.aload_n dX7_writeCond_80 rfl ?_
            refine C.getf gf_X7_97 dX7_writeCond_81 hqL (hfq' _ _) rfl ?_
            refine C.iload_n dX7_writeCond_84 rfl ?_
            refine C.aald4 dX7_writeCond_85 hpL (hfp' _ _) (iI_in (by omega) (show (0 : Int) < (xs.length : Int) by omega) (by omega)) ?_
            rw [iI_clamp (by omega), show ((([] : List TT).length : Int).toNat) = 0 from rfl, show gr 0 = some qy from hgy]
            refine C.aload_n dX7_writeCond_86 rfl ?_
            refine C.getf gf_X7_89 dX7_writeCond_87 hqL (hfq' _ _) rfl ?_
            refine C.topI (b := kd) hkk ?_
            refine C.iload_n dX7_writeCond_90 rfl ?_
            refine C.kcall (M) cw_X7_writePiece ml_X7_101 im_X7_writePiece sl_X7_writePiece dX7_writeCond_91 (hL _ (by decide)) rfl rfl rfl (by omega) (Nat.le_refl _) (Nat.le_refl _) (Nat.le_of_ble_eq_true rfl) rfl (fun r91 c91 a91 hR91 => ?_)
            obtain ⟨rfl, y1, y2, y3⟩ := hR91
            refine C.iincI dX7_writeCond_94 rfl (by decide) rfl ?_
            refine C.goto (tgt := 47) dX7_writeCond_97 (by decide) ?_
            skip
            exact nx c91 a91 false hdn2 (by
              show WS c91 a91 (T ++ (wt y m F ++ jt z m []))
              rw [show jt z m [] = [] from rfl, List.append_nil]
              exact y1) y2 (fun h => by cases h) (fun _ => rfl) (hG.tr y3)
          | cons d0 ds =>
            have hbb : bo1 = false := hb2 (by simp)
            subst hbb
            have hdne : d0 :: ds ≠ [] := by simp
            have hjp : 1 ≤ (jn z m F (d0 :: ds)).length := by
              have h0 := wt_len d0 (tx d0 (by rw [hdn]; exact List.mem_append_left _ List.mem_cons_self)) m F
              show 1 ≤ (wt d0 m F ++ jt z m ds).length
              rw [List.length_append]
              omega
            have hjn : jn z m F (d0 :: ds ++ [y]) = jn z m F (d0 :: ds) ++ (32 :: z ++ wt y m true) := by
              rw [jn_app hdne]
              simp [jt]
            have hlen1 : (jn z m F (d0 :: ds ++ [y])).length ≤ (jn z m F xs).length := by
              rw [hdn2, jn_app (xs := d0 :: ds ++ [y]) (by simp), List.length_append]
              omega
            have hl2 : (jn z m F (d0 :: ds ++ [y])).length = (jn z m F (d0 :: ds)).length + (1 + z.length + (wt y m true).length) := by
              rw [hjn, List.length_append, List.length_append, List.length_cons]
              omega
            have hTl : (T ++ jn z m F (d0 :: ds)).length = T.length + (jn z m F (d0 :: ds)).length := List.length_append
            have M0 := w_word (d := d - 1) (g := g) (w := w0) (by omega) (by omega) hL hW1 h1 (by omega)
            rw [fl1 (by omega), hzz] at M0
            have hTl2 : (T ++ jn z m F (d0 :: ds) ++ (sp true ++ z)).length = T.length + (jn z m F (d0 :: ds)).length + (1 + z.length) := by
              rw [List.length_append, hTl, List.length_append]
              show _ + (1 + z.length) = _
              omega
            have hMP : ∀ (c2 : SF) (a2 : SA), WS c2 a2 (T ++ jn z m F (d0 :: ds) ++ (sp true ++ z)) → c2 112 = b2i false → KA yX7_writePiece cX7_writePiece 5 none (d - 1) [.ref 11, .ref qy, .int (iI kd), .int (iI dp)] L g c2 a2 (WP c2 a2 (T ++ jn z m F (d0 :: ds) ++ (sp true ++ z) ++ wt y m true) false) := by
              intro c2 a2 hW2 h2
              have M := w_piece (d := d - 1) (dp := dp) (kd := kd) ih hL (by omega) (by omega) (by omega) hyT hCy hW2 h2 (by rw [fl1 (by omega), hpt y hym]; omega)
              rw [fl1 (by omega), hpt y hym] at M
              exact M
            have hfin : T ++ jn z m F (d0 :: ds) ++ (sp true ++ z) ++ wt y m true = T ++ jn z m F (d0 :: ds ++ [y]) := by
              rw [hjn]
              simp [sp]
            rw [hfin] at hMP
            rcases hw0 with ⟨rfl, rfl⟩ | ⟨rfl, rfl⟩
            · refine C.iload_n dX7_writeCond_47 rfl ?_
              refine C.aload_n dX7_writeCond_48 rfl ?_
              refine C.getf gf_X7_97 dX7_writeCond_49 hqL (hfq' _ _) rfl ?_
              refine C.alenI dX7_writeCond_52 hpL (hfp' _ _) (by decide) ?_
              refine C.icmp_geI (tgt := 100) dX7_writeCond_53 (by decide) (by omega) (by omega) (fun hc53 => absurd hc53 (by omega)) (fun hc53 => ?_)
              refine C.iload_n dX7_writeCond_56 rfl ?_
              refine C.if_leI (tgt := 79) dX7_writeCond_57 (by decide) (by simp only [List.length_cons] at hll ⊢; omega) (fun hc57 => absurd hc57 (by simp only [List.length_cons]; omega)) (fun hc57 => ?_)
              refine C.aload_n dX7_writeCond_60 rfl ?_
              refine C.aload_n dX7_writeCond_61 rfl ?_
              refine C.getf gf_X7_89 dX7_writeCond_62 hqL (hfq' _ _) rfl ?_
              refine C.topI (b := 1) hkk ?_
              refine C.ic dX7_writeCond_65 ?_
              refine C.icmp_neI (tgt := 74) dX7_writeCond_66 (by decide) (by decide) (by decide) (fun hc66 => absurd hc66 (fun h => h rfl)) (fun hc66 => ?_)
              refine C.bi dX7_writeCond_69 (by decide) ?_
              refine C.goto (tgt := 76) dX7_writeCond_71 (by decide) ?_
              refine C.kcall (M0) cw_X7_writeWord ml_X7_50 im_X7_writeWord sl_X7_writeWord dX7_writeCond_76 (hL _ (by decide)) rfl rfl rfl (by omega) (Nat.le_refl _) (Nat.le_refl _) (Nat.le_of_ble_eq_true rfl) rfl (fun r76 c76 a76 hR76 => ?_)
              obtain ⟨rfl, x1, x2, x3⟩ := hR76
              refine C.aload_n dX7_writeCond_79 rfl ?_
              refine C.aload_n dX7_writeCond_80 rfl ?_
              refine C.getf gf_X7_97 dX7_writeCond_81 hqL (hfq' _ _) rfl ?_
              refine C.iload_n dX7_writeCond_84 rfl ?_
              refine C.aald4 dX7_writeCond_85 hpL (hfp' _ _) (iI_in (by omega) (by omega) (by omega)) ?_
              rw [iI_clamp (by omega), Int.toNat_natCast, hgy]
              refine C.aload_n dX7_writeCond_86 rfl ?_
              refine C.getf gf_X7_89 dX7_writeCond_87 hqL (hfq' _ _) rfl ?_
              refine C.topI (b := 1) hkk ?_
              refine C.iload_n dX7_writeCond_90 rfl ?_
              refine C.kcall ((hMP c76 a76 x1 x2)) cw_X7_writePiece ml_X7_101 im_X7_writePiece sl_X7_writePiece dX7_writeCond_91 (hL _ (by decide)) rfl rfl rfl (by omega) (Nat.le_refl _) (Nat.le_refl _) (Nat.le_of_ble_eq_true rfl) rfl (fun r91 c91 a91 hR91 => ?_)
              obtain ⟨rfl, y1, y2, y3⟩ := hR91
              refine C.iincI dX7_writeCond_94 rfl (by decide) rfl ?_
              refine C.goto (tgt := 47) dX7_writeCond_97 (by decide) ?_
              exact nx c91 a91 false hdn2 y1 y2 (fun h => by simp at h) (fun _ => rfl) ((hG.tr x3).tr y3)
            · refine C.iload_n dX7_writeCond_47 rfl ?_
              refine C.aload_n dX7_writeCond_48 rfl ?_
              refine C.getf gf_X7_97 dX7_writeCond_49 hqL (hfq' _ _) rfl ?_
              refine C.alenI dX7_writeCond_52 hpL (hfp' _ _) (by decide) ?_
              refine C.icmp_geI (tgt := 100) dX7_writeCond_53 (by decide) (by omega) (by omega) (fun hc53 => absurd hc53 (by omega)) (fun hc53 => ?_)
              refine C.iload_n dX7_writeCond_56 rfl ?_
              refine C.if_leI (tgt := 79) dX7_writeCond_57 (by decide) (by simp only [List.length_cons] at hll ⊢; omega) (fun hc57 => absurd hc57 (by simp only [List.length_cons]; omega)) (fun hc57 => ?_)
              refine C.aload_n dX7_writeCond_60 rfl ?_
              refine C.aload_n dX7_writeCond_61 rfl ?_
              refine C.getf gf_X7_89 dX7_writeCond_62 hqL (hfq' _ _) rfl ?_
              refine C.topI (b := 0) hkk ?_
              refine C.ic dX7_writeCond_65 ?_
              refine C.icmp_neI (tgt := 74) dX7_writeCond_66 (by decide) (by decide) (by decide) (fun hc66 => ?_) (fun hc66 => absurd hc66 (by decide))
              refine C.bi dX7_writeCond_74 (by decide) ?_
              refine C.kcall (M0) cw_X7_writeWord ml_X7_50 im_X7_writeWord sl_X7_writeWord dX7_writeCond_76 (hL _ (by decide)) rfl rfl rfl (by omega) (Nat.le_refl _) (Nat.le_refl _) (Nat.le_of_ble_eq_true rfl) rfl (fun r76 c76 a76 hR76 => ?_)
              obtain ⟨rfl, x1, x2, x3⟩ := hR76
              refine C.aload_n dX7_writeCond_79 rfl ?_
              refine C.aload_n dX7_writeCond_80 rfl ?_
              refine C.getf gf_X7_97 dX7_writeCond_81 hqL (hfq' _ _) rfl ?_
              refine C.iload_n dX7_writeCond_84 rfl ?_
              refine C.aald4 dX7_writeCond_85 hpL (hfp' _ _) (iI_in (by omega) (by omega) (by omega)) ?_
              rw [iI_clamp (by omega), Int.toNat_natCast, hgy]
              refine C.aload_n dX7_writeCond_86 rfl ?_
              refine C.getf gf_X7_89 dX7_writeCond_87 hqL (hfq' _ _) rfl ?_
              refine C.topI (b := 0) hkk ?_
              refine C.iload_n dX7_writeCond_90 rfl ?_
              refine C.kcall ((hMP c76 a76 x1 x2)) cw_X7_writePiece ml_X7_101 im_X7_writePiece sl_X7_writePiece dX7_writeCond_91 (hL _ (by decide)) rfl rfl rfl (by omega) (Nat.le_refl _) (Nat.le_refl _) (Nat.le_of_ble_eq_true rfl) rfl (fun r91 c91 a91 hR91 => ?_)
              obtain ⟨rfl, y1, y2, y3⟩ := hR91
              refine C.iincI dX7_writeCond_94 rfl (by decide) rfl ?_
              refine C.goto (tgt := 47) dX7_writeCond_97 (by decide) ?_
              exact nx c91 a91 false hdn2 y1 y2 (fun h => by simp at h) (fun _ => rfl) ((hG.tr x3).tr y3)
      have l0 := loop xs [] c a bo rfl (by rw [show jn z m F [] = [] from rfl, List.append_nil]; exact hW) h112 (fun _ => rfl) (fun h => absurd rfl h) GW.rf
      refine C.iload_n dX7_writeCond_0 rfl ?_
      refine C.bi dX7_writeCond_1 (by decide) ?_
      refine C.icmp_leI (tgt := 7) dX7_writeCond_3 (by decide) (by omega) (by omega) (fun hc3 => ?_) (fun hc3 => absurd hc3 (by omega))
      refine C.aload_n dX7_writeCond_7 rfl ?_
      refine C.getf gf_X7_89 dX7_writeCond_8 hqL (hfq' _ _) rfl ?_
      refine C.ic dX7_writeCond_11 ?_
      refine C.icmp_neI (tgt := 32) dX7_writeCond_12 (by decide) (by omega) (by omega) (fun hc12 => ?_) (fun hc12 => absurd hc12 (by omega))
      refine C.aload_n dX7_writeCond_32 rfl ?_
      refine C.getf gf_X7_89 dX7_writeCond_33 hqL (hfq' _ _) rfl ?_
      refine C.ic dX7_writeCond_36 ?_
      refine C.icmp_neI (tgt := 45) dX7_writeCond_37 (by decide) (by omega) (by omega) (fun hc37 => ?_) (fun hc37 => absurd hc37 (by omega))
      refine C.ic dX7_writeCond_45 ?_
      refine C.istore_n dX7_writeCond_46 (by decide) rfl ?_
      exact l0
end WRC
