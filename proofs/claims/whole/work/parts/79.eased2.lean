theorem lvs_ez (t : TT) (ht : isT t) : lvs (ez t) = lvs t := by
  have key : ∀ t, isT t → lvs (ez t) = lvs t ∧ ∀ c, t = .not c → lvs (ez c) = lvs c := by
    refine isT_ind (P := fun t => lvs (ez t) = lvs t ∧ ∀ c, t = .not c → lvs (ez c) = lvs c) ?_ ?_ ?_ ?_
    · intro n hn; exact ⟨rfl, fun c h => by cases h⟩
    · intro c hc ih
      refine ⟨?_, fun c' h => by cases h; exact ih.1⟩
      by_cases hq : ∀ c2, c ≠ .not c2
      · rw [ez_not hq]; exact ih.1
      · have : ∃ c2, c = .not c2 := by
          apply Classical.byContradiction
          intro h
          exact hq (fun c2 e => h ⟨c2, e⟩)
        obtain ⟨c2, rfl⟩ := this
        exact ih.2 c2 rfl
    · intro a b _ _ ha hb; exact ⟨by simp only [ez, lvs, ha.1, hb.1], fun c h => by cases h⟩
    · intro a b _ _ ha hb; exact ⟨by simp only [ez, lvs, ha.1, hb.1], fun c h => by cases h⟩
  exact (key t ht).1
theorem jL_lvs (kd : Int) (t : TT) : (jL kd t).length ≤ lvs t ∧ ((jL kd t).map lvs).sum = lvs t := by
  unfold jL
  split
  · exact andL_lvs t
  · exact orL_lvs t
theorem jL_kc (kd : Int) (t : TT) : ((jL kd t).map kc).sum + 4 * ((jL kd t).length - 1) = kc t ∧ 1 ≤ (jL kd t).length := by
  unfold jL
  split
  · exact andL_kc t
  · exact orL_kc t
theorem jL_ks (kd : Int) (N : Nat) (t : TT) : ((jL kd t).map (ks N)).sum + (N + 9) * ((jL kd t).length - 1) = ks N t := by
  unfold jL
  split
  · exact andL_ks N t
  · exact orL_ks N t
theorem flat_lvs (kd : Int) : ∀ xs : List TT, (∀ x ∈ xs, isT x) → (xs.flatMap (fun x => jL kd (ez x))).length ≤ (xs.map lvs).sum := by
  intro xs
  induction xs with
  | nil => intro _; exact Nat.le_refl _
  | cons x xs ih =>
    intro h
    have h1 := (jL_lvs kd (ez x)).1
    rw [lvs_ez x (h x List.mem_cons_self)] at h1
    have h2 := ih (fun y hy => h y (List.mem_cons_of_mem _ hy))
    simp only [List.flatMap_cons, List.length_append, List.map_cons, List.sum_cons]
    omega
theorem mkJ_isT {kd : Int} {a b : TT} (ha : isT a) (hb : isT b) : isT (mkJ kd a b) := by
  unfold mkJ
  split
  · exact ⟨ha, hb⟩
  · exact ⟨ha, hb⟩
theorem mkJ_knd (kd : Int) (hkd : kd = 0 ∨ kd = 1) (a b : TT) : knd (mkJ kd a b) = kd := by
  rcases hkd with rfl | rfl <;> rfl
/-- a row that holds what the other does is as good -/
theorem CAt.row {L : List Nat} {f : Nat → AC} {D k : Nat} {kd : Int} {t t2 : TT} (hkd : kd = 0 ∨ kd = 1) (ht : isT t) (ht2 : isT t2) (h : CAt L f D k t) (h1 : knd t = kd) (h2 : knd t2 = kd) (hj : jL kd t = jL kd t2) : CAt L f D k t2 := by
  refine h.nest (fun p => ?_) ?_
  · rcases hkd with rfl | rfl
    · rcases isT_small ht with ⟨n, h5, rfl⟩ | ⟨c, h5, rfl⟩ | ⟨a, b, h5, h6, rfl⟩ | ⟨a, b, h5, h6, rfl⟩
      · exact absurd h1 (by simp [knd])
      · exact absurd h1 (by simp [knd])
      · exact absurd h1 (by simp [knd])
      · rcases isT_small ht2 with ⟨n, h7, rfl⟩ | ⟨c, h7, rfl⟩ | ⟨a2, b2, h7, h8, rfl⟩ | ⟨a2, b2, h7, h8, rfl⟩
        · exact absurd h2 (by simp [knd])
        · exact absurd h2 (by simp [knd])
        · exact absurd h2 (by simp [knd])
        · exact CO_or hj p
    · rcases isT_small ht with ⟨n, h5, rfl⟩ | ⟨c, h5, rfl⟩ | ⟨a, b, h5, h6, rfl⟩ | ⟨a, b, h5, h6, rfl⟩
      · exact absurd h1 (by simp [knd])
      · exact absurd h1 (by simp [knd])
      · rcases isT_small ht2 with ⟨n, h7, rfl⟩ | ⟨c, h7, rfl⟩ | ⟨a2, b2, h7, h8, rfl⟩ | ⟨a2, b2, h7, h8, rfl⟩
        · exact absurd h2 (by simp [knd])
        · exact absurd h2 (by simp [knd])
        · exact CO_and hj p
        · exact absurd h2 (by simp [knd])
      · exact absurd h1 (by simp [knd])
  · rw [← jL_eq hkd h1 ht, ← jL_eq hkd h2 ht2, hj]
theorem JAt.of {L : List Nat} {f : Nat → AC} {D q : Nat} {kd : Int} {t : TT} (h : CAt L f D q t) : JAt L f D kd q t := by
  unfold JAt
  split
  · exact CAt.mono D (by omega) h
  · exact h
set_option maxRecDepth 20000 in
set_option maxHeartbeats 4000000 in
theorem c_eased {N : Nat} (hN : N < 900) : ∀ (D : Nat) {d dp q : Nat} {t : TT} {L : List Nat} {f : Nat → AC}, D + 3 ≤ d → dp + D ≤ 41 → isT t → lvs t ≤ N → CAt L f D q t → AM yX0_eased cX0_eased 5 (some (.object "PlainWords$Cond")) d (kc t) (ks N t) [.ref q, .int (iI dp)] L f (NwC L f D (ez t)) := by
  intro D
  induction D with
  | zero => intro d dp q t L f _ _ _ _ h; exact h.elim
  | succ D ih =>
    intro d dp q t L f hd hdp ht hlv h
    have hC := h
    obtain ⟨⟨hq2, hqL⟩, p, gr, hfq, ⟨hp2, hpL⟩, hfp, hel⟩ := h
    have hkr := knd_rng ht
    cases hhn : hn t with
    | false =>
      refine AM.of (by decide +kernel) (by simp [Value.category]) (Nat.le_of_ble_eq_true rfl) false (fun h => by cases h) (fun X C => ?_)
      refine C.aload_n dX0_eased_0 rfl ?_
      refine C.getf gf_X0_36 dX0_eased_1 hqL hfq rfl ?_
      refine C.topI (b := 0) (by rw [hhn]; rfl) ?_
      refine C.if_eqI (tgt := 21) dX0_eased_4 (by decide) (by decide) (fun _ => ?_) (fun h => absurd rfl h)
      refine C.aload_n dX0_eased_21 rfl ?_
      exact C.aret rfl (Or.inl ⟨_, rfl⟩) dX0_eased_22 (Nat.zero_le _) (Nat.zero_le _) ⟨q, rfl, by rw [ez_id t ht hhn]; exact hC, Fo.rf⟩
    | true =>
      have hpl : 1 ≤ (pcs t).length := by
        rcases isT_small ht with ⟨n, hn5, rfl⟩ | ⟨c, hc, rfl⟩ | ⟨a, b, ha, hb, rfl⟩ | ⟨a, b, ha, hb, rfl⟩
        · exact absurd hhn (by simp [hn])
        · exact Nat.le_refl _
        · exact (andL_kc _).2
        · exact (orL_kc _).2
      have hpl2 : (pcs t).length ≤ lvs t := by
        rcases isT_small ht with ⟨n, hn5, rfl⟩ | ⟨c, hc, rfl⟩ | ⟨a, b, ha, hb, rfl⟩ | ⟨a, b, ha, hb, rfl⟩
        · exact Nat.zero_le _
        · have := (andL_lvs c).1
          have := (andL_kc c).2
          show 1 ≤ lvs c
          omega
        · exact (andL_lvs _).1
        · exact (orL_lvs _).1
      refine AM.of (by decide +kernel) (by simp [Value.category]) (Nat.le_of_ble_eq_true rfl) false (fun h => by cases h) (fun X C => ?_)
      have head : ∀ q0, gr 0 = some q0 → X 0 0 L f 30 [some (.ref q), some (.int (iI dp)), some (.ref q0), none, none] [] → X 0 0 L f 0 [some (.ref q), some (.int (iI dp)), none, none, none] [] := by
        intro q0 hg0 hX
        refine C.aload_n dX0_eased_0 rfl ?_
        refine C.getf gf_X0_36 dX0_eased_1 hqL hfq rfl ?_
        refine C.topI (b := 1) (by rw [hhn]; rfl) ?_
        refine C.if_eqI (tgt := 21) dX0_eased_4 (by decide) (by decide) (fun h => absurd h (by decide)) (fun _ => ?_)
        refine C.aload_n dX0_eased_7 rfl ?_
        refine C.getf gf_X0_18 dX0_eased_8 hqL hfq rfl ?_
        refine C.alenI dX0_eased_11 hpL hfp (by decide) ?_
        refine C.if_eqI (tgt := 21) dX0_eased_12 (by decide) (by omega) (fun h => absurd h (by omega)) (fun _ => ?_)
        refine C.iload_n dX0_eased_15 rfl ?_
        refine C.bi dX0_eased_16 (by decide) ?_
        refine C.icmp_leI (tgt := 23) dX0_eased_18 (by decide) (by omega) (by omega) (fun _ => ?_) (fun h => absurd h (by omega))
        refine C.aload_n dX0_eased_23 rfl ?_
        refine C.getf gf_X0_18 dX0_eased_24 hqL hfq rfl ?_
        refine C.ic dX0_eased_27 ?_
        refine C.aald4 dX0_eased_28 hpL hfp (iI_in (by omega) (by omega) (by omega)) ?_
        rw [iI_clamp (by omega), show ((0 : Int).toNat) = 0 from rfl, hg0]
        refine C.astore_n dX0_eased_29 (by decide) rfl ?_
        exact hX
      by_cases hk2 : knd t = 2
      · rcases isT_small ht with ⟨n, hn5, rfl⟩ | ⟨c, hc, rfl⟩ | ⟨a, b, ha, hb, rfl⟩ | ⟨a, b, ha, hb, rfl⟩
        · exact absurd hk2 (by simp [knd])
        · obtain ⟨q0, hg0, hC0⟩ := hel 0 c rfl
          refine head q0 hg0 ?_
          obtain ⟨hq0L, hq02, p0, hfq0⟩ := hC0.obj
          have hkc := knd_rng hc
          refine C.aload_n dX0_eased_30 rfl ?_
          refine C.getf gf_X0_11 dX0_eased_31 hqL hfq rfl ?_
          refine C.ic dX0_eased_34 ?_
          refine C.icmp_neI (tgt := 90) dX0_eased_35 (by decide) (show -2147483648 ≤ (2 : Int) ∧ (2 : Int) < 2147483648 by decide) (by decide) (fun h => absurd rfl h) (fun _ => ?_)
          refine C.aload_n dX0_eased_38 rfl ?_
          refine C.getf gf_X0_11 dX0_eased_39 hq0L hfq0 rfl ?_
          refine C.ic dX0_eased_42 ?_
          by_cases hcn : ∃ c2, c = .not c2
          · obtain ⟨c2, rfl⟩ := hcn
            cases D with
            | zero => exact hC0.elim
            | succ D =>
              obtain ⟨-, p1, g1, hfq1, ⟨hp12, hp1L⟩, hfp1, hel1⟩ := hC0
              obtain ⟨q00, hg00, hC00⟩ := hel1 0 c2 rfl
              refine C.icmp_neI (tgt := 58) dX0_eased_43 (by decide) (show -2147483648 ≤ (2 : Int) ∧ (2 : Int) < 2147483648 by decide) (by decide) (fun h => absurd rfl h) (fun _ => ?_)
              refine C.aload_n dX0_eased_46 rfl ?_
              refine C.getf gf_X0_18 dX0_eased_47 hq0L hfq1 rfl ?_
              refine C.alenI dX0_eased_50 hp1L hfp1 (by decide) ?_
              refine C.if_leI (tgt := 58) dX0_eased_51 (by decide) (show -2147483648 ≤ (1 : Int) ∧ (1 : Int) < 2147483648 by decide) (fun h => absurd h (show ¬ (1 : Int) ≤ 0 by decide)) (fun _ => ?_)
              refine C.ic dX0_eased_54 ?_
              refine C.goto (tgt := 59) dX0_eased_55 (by decide) ?_
              refine C.istore_n dX0_eased_59 (by decide) rfl ?_
              refine C.iload_n dX0_eased_60 rfl ?_
              refine C.if_eqI (tgt := 79) dX0_eased_61 (by decide) (by decide) (fun h => absurd h (by decide)) (fun _ => ?_)
              refine C.aload_n dX0_eased_64 rfl ?_
              refine C.getf gf_X0_18 dX0_eased_65 hq0L hfq1 rfl ?_
              refine C.ic dX0_eased_68 ?_
              refine C.aald4 dX0_eased_69 hp1L hfp1 (iI_in (by omega) (show (0 : Int) < ((1 : Nat) : Int) by omega) (show 1 < 2147483648 by omega)) ?_
              rw [iI_clamp (by omega), show ((0 : Int).toNat) = 0 from rfl, hg00]
              refine C.iload_n dX0_eased_70 rfl ?_
              refine C.ic dX0_eased_71 ?_
              refine C.iaddI dX0_eased_72 ?_
              have hM := ih (d := d - 1) (dp := dp + 1) (q := q00) (t := c2) (L := L) (f := f) (by omega) (by omega) ht hlv (CAt.mono D (by omega) hC00)
              refine C.callS hM cw_X0_eased ml_X0_52 sm_X0_eased dX0_eased_73 rfl (by omega) (by simp only [kc]; omega) (by simp only [ks]; omega) (Nat.le_of_ble_eq_true rfl) rfl (fun r L9 f9 h9 => ?_)
              obtain ⟨k, rfl, hCk, hFk⟩ := h9
              refine C.goto (tgt := 89) dX0_eased_76 (by decide) ?_
              exact C.aret rfl (Or.inl ⟨_, rfl⟩) dX0_eased_89 (by simp only [kc]; omega) (by simp only [ks]; omega) ⟨k, rfl, CAt.mono (D + 1) (by omega) hCk, hFk⟩
          · have hcn2 : ∀ c2, c ≠ .not c2 := fun c2 e => hcn ⟨c2, e⟩
            have hknd : ¬ knd c = 2 := fun e => by
              rcases isT_small hc with ⟨n, hn5, rfl⟩ | ⟨c3, hc3, rfl⟩ | ⟨a, b, ha, hb, rfl⟩ | ⟨a, b, ha, hb, rfl⟩
              · simp [knd] at e
              · exact hcn2 c3 rfl
              · simp [knd] at e
              · simp [knd] at e
            refine C.icmp_neI (tgt := 58) dX0_eased_43 (by decide) (by omega) (by decide) (fun _ => ?_) (fun h => absurd h hknd)
            refine C.ic dX0_eased_58 ?_
            refine C.istore_n dX0_eased_59 (by decide) rfl ?_
            refine C.iload_n dX0_eased_60 rfl ?_
            refine C.if_eqI (tgt := 79) dX0_eased_61 (by decide) (by decide) (fun _ => ?_) (fun h => absurd rfl h)
            refine C.aload_n dX0_eased_79 rfl ?_
            refine C.iload_n dX0_eased_80 rfl ?_
            refine C.ic dX0_eased_81 ?_
            refine C.iaddI dX0_eased_82 ?_
            have hM := ih (d := d - 1) (dp := dp + 1) (q := q0) (t := c) (L := L) (f := f) (by omega) (by omega) hc hlv hC0
            refine C.callS hM cw_X0_eased ml_X0_52 sm_X0_eased dX0_eased_83 rfl (by omega) (by simp only [kc]; omega) (by simp only [ks]; omega) (Nat.le_of_ble_eq_true rfl) rfl (fun r L9 f9 h9 => ?_)
            obtain ⟨k1, rfl, hCk, hFk⟩ := h9
            refine C.callS (c_negated (d := d - 1) (by omega) (isT_ez c hc) hCk) cw_X0_negated ml_X0_56 sm_X0_negated dX0_eased_86 rfl (by omega) (by simp only [kc]; omega) (by simp only [ks]; omega) (Nat.le_of_ble_eq_true rfl) rfl (fun r L8 f8 h8 => ?_)
            obtain ⟨k, rfl, hCk2, hFk2⟩ := h8
            refine C.aret rfl (Or.inl ⟨_, rfl⟩) dX0_eased_89 (by simp only [kc]; omega) (by simp only [ks]; omega) ⟨k, rfl, ?_, hFk.tr hFk2⟩
            rw [ez_not hcn2]
            exact hCk2
        · exact absurd hk2 (by simp [knd])
        · exact absurd hk2 (by simp [knd])
      · -- a row
        have hkd : knd t = 0 ∨ knd t = 1 := by
          rcases isT_small ht with ⟨n, hn5, rfl⟩ | ⟨c, hc, rfl⟩ | ⟨a, b, ha, hb, rfl⟩ | ⟨a, b, ha, hb, rfl⟩
          · exact absurd hhn (by simp [hn])
          · exact absurd rfl hk2
          · exact Or.inr rfl
          · exact Or.inl rfl
        have hezk : knd (ez t) = knd t := by
          rcases isT_small ht with ⟨n, hn5, rfl⟩ | ⟨c, hc, rfl⟩ | ⟨a, b, ha, hb, rfl⟩ | ⟨a, b, ha, hb, rfl⟩
          · rfl
          · exact absurd rfl hk2
          · rfl
          · rfl
        have hjp := jL_eq hkd rfl ht
        have hlen2 : 2 ≤ (pcs t).length := by
          rcases isT_small ht with ⟨n, hn5, rfl⟩ | ⟨c, hc, rfl⟩ | ⟨a, b, ha, hb, rfl⟩ | ⟨a, b, ha, hb, rfl⟩
          · exact absurd hhn (by simp [hn])
          · exact absurd rfl hk2
          · have h1 := (andL_kc a).2
            have h2 := (andL_kc b).2
            show 2 ≤ (andL a ++ andL b).length
            rw [List.length_append]
            omega
          · have h1 := (orL_kc a).2
            have h2 := (orL_kc b).2
            show 2 ≤ (orL a ++ orL b).length
            rw [List.length_append]
            omega
        have b1 := (jL_kc (knd t) t).1
        have b2 := jL_ks (knd t) N t
        have b3 := (jL_lvs (knd t) t).2
        have b4 := jL_ez (knd t) t
        have hTT := jL_isT (kd := knd t) ht
        rw [hjp] at b1 b2 b3 b4 hTT
        generalize hkdd : knd t = kd at *
        generalize hxs : pcs t = xs at *
        cases xs with
        | nil => simp at hlen2
        | cons x0 xr =>
          obtain ⟨q0, hg0, hC0⟩ := hel 0 x0 rfl
          refine head q0 hg0 ?_
          simp only [List.map_cons, List.sum_cons, List.length_cons, Nat.add_sub_cancel] at b1 b2 b3
          have hxl : xr.length + 1 ≤ N := by
            simp only [List.length_cons] at hpl2
            omega
          refine C.aload_n dX0_eased_30 rfl ?_
          refine C.getf gf_X0_11 dX0_eased_31 hqL hfq rfl ?_
          refine C.topI (b := kd) hkdd ?_
          refine C.ic dX0_eased_34 ?_
          refine C.icmp_neI (tgt := 90) dX0_eased_35 (by decide) (by omega) (by decide) (fun _ => ?_) (fun h => absurd h hk2)
          refine C.aload_n dX0_eased_90 rfl ?_
          refine C.iload_n dX0_eased_91 rfl ?_
          refine C.ic dX0_eased_92 ?_
          refine C.iaddI dX0_eased_93 ?_
          have hM := ih (d := d - 1) (dp := dp + 1) (q := q0) (t := x0) (L := L) (f := f) (by omega) (by omega) (hTT x0 List.mem_cons_self) (by omega) hC0
          refine C.callS hM cw_X0_eased ml_X0_52 sm_X0_eased dX0_eased_94 rfl (by omega) (by omega) (by rw [← b2]; omega) (Nat.le_of_ble_eq_true rfl) rfl (fun r L1 f1 h9 => ?_)
          obtain ⟨k1, rfl, hCk, hFk⟩ := h9
          refine C.astore_n dX0_eased_97 (by decide) rfl ?_
          refine C.ic dX0_eased_98 ?_
          refine C.istore dX0_eased_99 (by decide) rfl ?_
          have loop : ∀ (ys done : List TT) (R : TT) (k ce sl : Nat) (L2 : List Nat) (f2 : Nat → AC), x0 :: xr = done ++ ys → 1 ≤ done.length → isT R → JAt L2 f2 D kd k R → jL kd R = done.flatMap (fun x => jL kd (ez x)) → (2 ≤ done.length → knd R = kd) → Fo L f L2 f2 → ce + (ys.map kc).sum + 4 * ys.length ≤ kc t → sl + (ys.map (ks N)).sum + (N + 9) * ys.length ≤ ks N t → X ce sl L2 f2 101 [some (.ref q), some (.int (iI dp)), some (.ref q0), some (.ref k), some (.int (iI done.length))] [] := by
            intro ys
            induction ys with
            | nil =>
              intro done R k ce sl L2 f2 hdn h1 hRT hJ hjR hRk hF hce hsl
              rw [List.append_nil] at hdn
              have hll : xr.length + 1 = done.length := by rw [← hdn, List.length_cons]
              have hq' := hF.1 q hqL
              have hfq' := (hF.2 q hqL).trans hfq
              have hp' := hF.1 p hpL
              have hfp' := (hF.2 p hpL).trans hfp
              simp only [List.length_cons] at hlen2
              have hRk2 := hRk (by omega)
              refine C.iload dX0_eased_101 rfl ?_
              refine C.aload_n dX0_eased_103 rfl ?_
              refine C.getf gf_X0_18 dX0_eased_104 hq' hfq' rfl ?_
              refine C.alenI dX0_eased_107 hp' hfp' (by decide) ?_
              refine C.topI (b := ((xr.length + 1 : Nat) : Int)) rfl ?_
              refine C.icmp_geI (tgt := 139) dX0_eased_108 (by decide) (by omega) (by omega) (fun _ => ?_) (fun h => absurd h (by omega))
              refine C.aload_n dX0_eased_139 rfl ?_
              refine C.aret rfl (Or.inl ⟨_, rfl⟩) dX0_eased_140 (by omega) (by omega) ⟨k, rfl, ?_, hF⟩
              unfold JAt at hJ
              rw [if_pos hRk2] at hJ
              exact hJ.row hkd hRT (isT_ez t ht) hRk2 hezk (by rw [hjR, b4, hdn])
            | cons y ys ihy =>
              intro done R k ce sl L2 f2 hdn h1 hRT hJ hjR hRk hF hce hsl
              have hll : xr.length + 1 = done.length + (ys.length + 1) := by rw [← List.length_cons (a := x0), hdn, List.length_append, List.length_cons]
              have hyi : (x0 :: xr)[done.length]? = some y := by rw [hdn, List.getElem?_append_right (Nat.le_refl _), Nat.sub_self]; rfl
              obtain ⟨qy, hgy, hCy⟩ := hel _ y hyi
              have hyT := hTT y (List.mem_of_getElem? hyi)
              have hq' := hF.1 q hqL
              have hfq' := (hF.2 q hqL).trans hfq
              have hp' := hF.1 p hpL
              have hfp' := (hF.2 p hpL).trans hfp
              have hsumL : lvs x0 + (xr.map lvs).sum = (done.map lvs).sum + (lvs y + (ys.map lvs).sum) := by
                have := congrArg (fun l => (l.map lvs).sum) hdn
                simpa [List.map_append, List.sum_append] using this
              have hdT : ∀ x ∈ done ++ [y], isT x := fun x hx => hTT x (by
                rw [hdn]
                rcases List.mem_append.mp hx with h | h
                · exact List.mem_append_left _ h
                · rw [List.mem_singleton.mp h]; exact List.mem_append_right _ List.mem_cons_self)
              have hfl := flat_lvs kd (done ++ [y]) hdT
              rw [List.flatMap_append, ← hjR, List.flatMap_singleton, List.length_append, List.map_append, List.sum_append] at hfl
              simp only [List.map_cons, List.map_nil, List.sum_cons, List.sum_nil] at hfl hce hsl
              simp only [List.length_cons, Nat.mul_add, Nat.mul_one] at hce hsl
              generalize (N + 9) * ys.length = MM9 at *
              have hlvy : lvs y ≤ N := by omega
              refine C.iload dX0_eased_101 rfl ?_
              refine C.aload_n dX0_eased_103 rfl ?_
              refine C.getf gf_X0_18 dX0_eased_104 hq' hfq' rfl ?_
              refine C.alenI dX0_eased_107 hp' hfp' (by decide) ?_
              refine C.topI (b := ((xr.length + 1 : Nat) : Int)) rfl ?_
              refine C.icmp_geI (tgt := 139) dX0_eased_108 (by decide) (by omega) (by omega) (fun h => absurd h (by omega)) (fun _ => ?_)
              refine C.aload_n dX0_eased_111 rfl ?_
              refine C.getf gf_X0_11 dX0_eased_112 hq' hfq' rfl ?_
              refine C.topI (b := kd) hkdd ?_
              refine C.aload_n dX0_eased_115 rfl ?_
              refine C.aload_n dX0_eased_116 rfl ?_
              refine C.getf gf_X0_18 dX0_eased_117 hq' hfq' rfl ?_
              refine C.iload dX0_eased_120 rfl ?_
              refine C.aald4 dX0_eased_122 hp' hfp' (iI_in (by omega) (by show (done.length : Int) < ((xr.length + 1 : Nat) : Int); omega) (by show xr.length + 1 < 2147483648; omega)) ?_
              rw [iI_clamp (by omega), Int.toNat_natCast, hgy]
              refine C.iload_n dX0_eased_123 rfl ?_
              refine C.ic dX0_eased_124 ?_
              refine C.iaddI dX0_eased_125 ?_
              have hM2 := ih (d := d - 1) (dp := dp + 1) (q := qy) (t := y) (L := L2) (f := f2) (by omega) (by omega) hyT hlvy (CAt.keep hF.p D hCy)
              refine C.callS hM2 cw_X0_eased ml_X0_52 sm_X0_eased dX0_eased_126 rfl (by omega) (by omega) (by omega) (Nat.le_of_ble_eq_true rfl) rfl (fun r L3 f3 h3 => ?_)
              obtain ⟨k3, rfl, hCk3, hFk3⟩ := h3
              have hJ3 : JAt L3 f3 D kd k R := CAt.keep hFk3.p _ hJ
              refine C.callS (c_joined (d := d - 1) (D := D) (kd := kd) (by omega) hkd hRT (isT_ez y hyT) hJ3 (JAt.of hCk3) (by omega)) cw_X0_joined ml_X0_60 sm_X0_joined dX0_eased_129 rfl (by omega) (by omega) (by omega) (Nat.le_of_ble_eq_true rfl) rfl (fun r L4 f4 h4 => ?_)
              obtain ⟨k4, rfl, hCk4, hFk4⟩ := h4
              refine C.astore_n dX0_eased_132 (by decide) rfl ?_
              refine C.iincI dX0_eased_133 rfl (by decide) rfl ?_
              refine C.goto (tgt := 101) dX0_eased_136 (by decide) ?_
              have nx := ihy (done ++ [y]) (mkJ kd R (ez y)) k4 (ce + kc y + 4) (sl + ks N y + ((jL kd R).length + (jL kd (ez y)).length + 9)) L4 f4 (by rw [hdn, List.append_assoc]; rfl) (by rw [List.length_append]; omega) (mkJ_isT hRT (isT_ez y hyT)) (by unfold JAt; rw [if_pos (mkJ_knd kd hkd _ _)]; exact hCk4) (by
                rw [List.flatMap_append, ← hjR, List.flatMap_singleton]
                rcases hkd with rfl | rfl <;> rfl) (fun _ => mkJ_knd kd hkd _ _) ((hF.tr hFk3).tr hFk4) (by omega) (by omega)
              rw [List.length_append] at nx
              exact nx
          exact loop xr [x0] (ez x0) k1 _ _ L1 f1 rfl (Nat.le_refl _) (isT_ez x0 (hTT x0 List.mem_cons_self)) (JAt.of hCk) (by simp) (fun h => absurd h (by simp)) hFk (by omega) (by rw [← b2]; omega)
