/-! melting and easing of sentences -/
theorem canM_no {x y : Sen} (h : ¬ (x.1.2 = y.1.2 ∧ x.2.1 = y.2.1) ∨ ¬ x.1.1.length + y.1.1.length ≤ 3 ∨ ¬ (∀ v ∈ x.1.1, v ∉ y.1.1)) : canM x y = false := by
  unfold canM alk
  rw [Bool.and_eq_false_iff, Bool.and_eq_false_iff]
  rcases h with h | h | h
  · exact Or.inl (Or.inl (decide_eq_false (fun e => h ⟨e.1, e.2.1⟩)))
  · exact Or.inl (Or.inr (decide_eq_false h))
  · exact Or.inr (decide_eq_false h)
theorem canM_yes {x y : Sen} (h1 : x.1.2 = y.1.2 ∧ x.2.1 = y.2.1) (h2 : x.1.1.length + y.1.1.length ≤ 3) (h3 : ∀ v ∈ x.1.1, v ∉ y.1.1) : canM x y = (decide (cdO x.2.2.1 = cdO y.2.2.1) && decide (cdO x.2.2.2 = cdO y.2.2.2)) := by
  unfold canM alk
  rw [decide_eq_true h2, decide_eq_true h3, Bool.and_true, Bool.and_true, ← Bool.decide_and]
  exact decide_eq_decide.mpr ⟨fun e => e.2.2, fun e => ⟨h1.1, h1.2, e⟩⟩
section SEN4
variable {d D k : Nat} {x : Sen} {L : List Nat} {f : Nat → AC}
set_option maxRecDepth 20000 in
set_option maxHeartbeats 2000000 in
theorem s_canMelt {k2 : Nat} {y : Sen} (hd : D + 1 ≤ d) (hD : D ≤ 41) (h : SAt L f D k x) (hx : SOk x) (h' : SAt L f D k2 y) (hy : SOk y) : AM yX3_canMelt cX3_canMelt 6 (some .boolean) d 0 0 [.ref k, .ref k2] L f (SP (some (.int (iI (b2i (canM x y))))) L f) := by
  have M1 := s_asksLike (d := d - 1) h hx h' hy
  have M2 : ∀ a : Int, 0 ≤ a ∧ a ≤ 9 → _ := fun a ha => s_names (d := d - 1) (a := a) (by unfold i3; omega) h hx
  obtain ⟨⟨hk, hk2⟩, e, w, u, hf, ⟨he, he2, g, hfe, hg⟩, hw, hu⟩ := h
  obtain ⟨⟨hk', hk2'⟩, e', w', u', hf', ⟨he', he2', g', hfe', hg'⟩, hw', hu'⟩ := h'
  have M3 := c_alikeO (d := d - 1) (by omega) hD hw hw'
  have M4 := c_alikeO (d := d - 1) (by omega) hD hu hu'
  obtain ⟨⟨⟨hlx, -, -, -⟩, a1, a2, a3, -⟩, a4⟩ := hx
  obtain ⟨⟨⟨hly, -, b9, -⟩, b1, b2, b3, -⟩, b4⟩ := hy
  refine AM.of (by decide +kernel) (by simp [Value.category]) (Nat.le_of_ble_eq_true rfl) false (fun h => by cases h) (fun X C => ?_)
  have no : canM x y = false → X 0 0 L f 34 [some (.ref k), some (.ref k2), none, none, none, none] [] := by
    intro hc
    refine C.ic dX3_canMelt_34 ?_
    refine C.retI rfl (by first | rfl | (exact (iI_bool (by first | exact Or.inl rfl | exact Or.inr rfl | assumption)).1)) dX3_canMelt_35 (Nat.le_refl _) (Nat.le_refl _) ⟨by rw [hc]; rfl, rfl, rfl⟩
    skip
  have fin : x.1.2 = y.1.2 ∧ x.2.1 = y.2.1 → x.1.1.length + y.1.1.length ≤ 3 → (∀ v ∈ x.1.1, v ∉ y.1.1) → ∀ v2 v3 v4 v5, X 0 0 L f 76 [some (.ref k), some (.ref k2), v2, v3, v4, v5] [] := by
    intro q1 q2 q3 v2 v3 v4 v5
    have hcm := canM_yes q1 q2 q3
    generalize decide (cdO x.2.2.1 = cdO y.2.2.1) = A at *
    generalize decide (cdO x.2.2.2 = cdO y.2.2.2) = B at *
    refine C.aload_n dX3_canMelt_76 rfl ?_
    refine C.getf gf_X3_29 dX3_canMelt_77 hk hf rfl ?_
    refine C.aload_n dX3_canMelt_80 rfl ?_
    refine C.getf gf_X3_29 dX3_canMelt_81 hk' hf' rfl ?_
    refine C.ic dX3_canMelt_84 ?_
    refine C.callSN (M3) cw_X0_alike (fun h => h.2.2.1.2) sm_X0_alike dX3_canMelt_85 rfl (by omega) (Nat.le_refl _) (Nat.le_refl _) (Nat.le_of_ble_eq_true rfl) rfl (fun r85 L85 f85 hR85 => ?_)
    obtain ⟨rfl, hL9, hf9⟩ := hR85
    rw [hL9, hf9]
    clear hL9 hf9
    refine C.if_eqI (tgt := 110) dX3_canMelt_88 (by decide) (b2i_r3 _) (fun hc88 => ?_) (fun hc88 => ?_)
    · refine C.ic dX3_canMelt_110 ?_
      refine C.topI (b := b2i (A && B)) (by first | exact an3 hc88 hc103 | exact an2 hc88 hc103 | exact an1 hc88) ?_
      refine C.retI rfl (iI_bool (b2i_01 _)).1 dX3_canMelt_111 (Nat.le_refl _) (Nat.le_refl _) ⟨by rw [hcm], rfl, rfl⟩
      skip
    · refine C.aload_n dX3_canMelt_91 rfl ?_
      refine C.getf gf_X3_33 dX3_canMelt_92 hk hf rfl ?_
      refine C.aload_n dX3_canMelt_95 rfl ?_
      refine C.getf gf_X3_33 dX3_canMelt_96 hk' hf' rfl ?_
      refine C.ic dX3_canMelt_99 ?_
      refine C.callSN (M4) cw_X0_alike (fun h => h.2.2.1.2) sm_X0_alike dX3_canMelt_100 rfl (by omega) (Nat.le_refl _) (Nat.le_refl _) (Nat.le_of_ble_eq_true rfl) rfl (fun r100 L100 f100 hR100 => ?_)
      obtain ⟨rfl, hL9, hf9⟩ := hR100
      rw [hL9, hf9]
      clear hL9 hf9
      refine C.if_eqI (tgt := 110) dX3_canMelt_103 (by decide) (b2i_r3 _) (fun hc103 => ?_) (fun hc103 => ?_)
      · refine C.ic dX3_canMelt_110 ?_
        refine C.topI (b := b2i (A && B)) (by first | exact an3 hc88 hc103 | exact an2 hc88 hc103 | exact an1 hc88) ?_
        refine C.retI rfl (iI_bool (b2i_01 _)).1 dX3_canMelt_111 (Nat.le_refl _) (Nat.le_refl _) ⟨by rw [hcm], rfl, rfl⟩
        skip
      · refine C.ic dX3_canMelt_106 ?_
        refine C.goto (tgt := 111) dX3_canMelt_107 (by decide) ?_
        refine C.topI (b := b2i (A && B)) (by first | exact an3 hc88 hc103 | exact an2 hc88 hc103 | exact an1 hc88) ?_
        refine C.retI rfl (iI_bool (b2i_01 _)).1 dX3_canMelt_111 (Nat.le_refl _) (Nat.le_refl _) ⟨by rw [hcm], rfl, rfl⟩
        skip
  have loop : x.1.2 = y.1.2 ∧ x.2.1 = y.2.1 → x.1.1.length + y.1.1.length ≤ 3 → ∀ (ys done : List Int), y.1.1 = done ++ ys → (∀ v ∈ done, hA x v = false) → ∀ v5, X 0 0 L f 47 [some (.ref k), some (.ref k2), some (.ref e'), some (.int (iI y.1.1.length)), some (.int (iI done.length)), v5] [] := by
    intro q1 q2 ys
    induction ys with
    | nil =>
      intro done hdn hno v5
      rw [List.append_nil] at hdn
      have q3 : ∀ v ∈ x.1.1, v ∉ y.1.1 := fun v hv hv2 => by
        have := hno v (hdn ▸ hv2)
        unfold hA at this
        rw [List.any_eq_false] at this
        exact this v hv (by simp)
      refine C.iload dX3_canMelt_47 rfl ?_
      refine C.iload_n dX3_canMelt_49 rfl ?_
      refine C.icmp_geI (tgt := 76) dX3_canMelt_50 (by decide) (by rw [hdn] at hly; omega) (by omega) (fun hc50 => ?_) (fun hc50 => absurd hc50 (by rw [hdn]; omega))
      exact fin q1 q2 q3 _ _ _ _
    | cons z ys ih =>
      intro done hdn hno v5
      have hll : y.1.1.length = done.length + (ys.length + 1) := by rw [hdn, List.length_append, List.length_cons]
      have hzi : y.1.1[done.length]? = some z := by rw [hdn, List.getElem?_append_right (Nat.le_refl _), Nat.sub_self]; rfl
      have hgi := hg' _ z hzi
      have hz9 := b9 z (List.mem_of_getElem? hzi)
      have nx := ih (done ++ [z]) (by rw [hdn, List.append_assoc]; rfl)
      rw [List.length_append] at nx
      refine C.iload dX3_canMelt_47 rfl ?_
      refine C.iload_n dX3_canMelt_49 rfl ?_
      refine C.icmp_geI (tgt := 76) dX3_canMelt_50 (by decide) (by omega) (by omega) (fun hc50 => absurd hc50 (by omega)) (fun hc50 => ?_)
      refine C.aload_n dX3_canMelt_53 rfl ?_
      refine C.iload dX3_canMelt_54 rfl ?_
      refine C.ialdI dX3_canMelt_56 he' hfe' (by omega) (by omega) ?_
      rw [Int.toNat_natCast, hgi]
      refine C.istore dX3_canMelt_57 (by decide) rfl ?_
      refine C.aload_n dX3_canMelt_59 rfl ?_
      refine C.iload dX3_canMelt_60 rfl ?_
      refine C.callV ((M2 z hz9)) cw_X3_names ml_X3_64 im_X3_names sl_X3_names dX3_canMelt_62 hk hf rfl rfl (by omega) (Nat.le_refl _) (Nat.le_refl _) (Nat.le_of_ble_eq_true rfl) rfl (fun r62 L62 f62 hR62 => ?_)
      obtain ⟨rfl, hL9, hf9⟩ := hR62
      rw [hL9, hf9]
      clear hL9 hf9
      refine C.if_eqI (tgt := 70) dX3_canMelt_65 (by decide) (b2i_r3 _) (fun hc65 => ?_) (fun hc65 => ?_)
      · refine C.iincI dX3_canMelt_70 rfl (by decide) rfl ?_
        refine C.goto (tgt := 47) dX3_canMelt_73 (by decide) ?_
        exact nx (fun v hv => by
          rcases List.mem_append.mp hv with h | h
          · exact hno v h
          · rw [List.mem_singleton.mp h]; exact b2i_f hc65) _
      · refine C.ic dX3_canMelt_68 ?_
        refine C.retI rfl (by first | rfl | (exact (iI_bool (by first | exact Or.inl rfl | exact Or.inr rfl | assumption)).1)) dX3_canMelt_69 (Nat.le_refl _) (Nat.le_refl _) ⟨?_, rfl, rfl⟩
        rw [canM_no (Or.inr (Or.inr (fun q => by
          have h2 := b2i_t hc65
          unfold hA at h2
          rw [List.any_eq_true] at h2
          obtain ⟨v, hv, hv2⟩ := h2
          have : v = z := of_decide_eq_true hv2
          subst this
          exact q v hv (List.mem_of_getElem? hzi))))]
        rfl
  refine C.aload_n dX3_canMelt_0 rfl ?_
  refine C.getf gf_X3_25 dX3_canMelt_1 hk hf rfl ?_
  refine C.alenI dX3_canMelt_4 he hfe (by decide) ?_
  refine C.aload_n dX3_canMelt_5 rfl ?_
  refine C.getf gf_X3_25 dX3_canMelt_6 hk' hf' rfl ?_
  refine C.alenI dX3_canMelt_9 he' hfe' (by decide) ?_
  refine C.iaddI dX3_canMelt_10 ?_
  refine C.ic dX3_canMelt_11 ?_
  refine C.icmp_gtI (tgt := 34) dX3_canMelt_12 (by decide) (by omega) (by omega) (fun hc12 => ?_) (fun hc12 => ?_)
  · exact no (canM_no (by
      first
        | exact Or.inr (Or.inl (by omega))
        | (refine Or.inl (fun q => ?_)
           have h2 := b2i_f hc20
           unfold aLk at h2
           rw [decide_eq_false_iff_not] at h2
           exact h2 ⟨by rw [q.1], by rw [q.1], q.2⟩)
        | (refine Or.inl (fun q => ?_)
           exact hc31 (by rw [q.1]))))
  · refine C.aload_n dX3_canMelt_15 rfl ?_
    refine C.aload_n dX3_canMelt_16 rfl ?_
    refine C.callV (M1) cw_X3_asksLike ml_X3_60 im_X3_asksLike sl_X3_asksLike dX3_canMelt_17 hk hf rfl rfl (by omega) (Nat.le_refl _) (Nat.le_refl _) (Nat.le_of_ble_eq_true rfl) rfl (fun r17 L17 f17 hR17 => ?_)
    obtain ⟨rfl, hL9, hf9⟩ := hR17
    rw [hL9, hf9]
    clear hL9 hf9
    refine C.if_eqI (tgt := 34) dX3_canMelt_20 (by decide) (b2i_r3 _) (fun hc20 => ?_) (fun hc20 => ?_)
    · exact no (canM_no (by
        first
          | exact Or.inr (Or.inl (by omega))
          | (refine Or.inl (fun q => ?_)
             have h2 := b2i_f hc20
             unfold aLk at h2
             rw [decide_eq_false_iff_not] at h2
             exact h2 ⟨by rw [q.1], by rw [q.1], q.2⟩)
          | (refine Or.inl (fun q => ?_)
             exact hc31 (by rw [q.1]))))
    · refine C.aload_n dX3_canMelt_23 rfl ?_
      refine C.getf gf_X3_21 dX3_canMelt_24 hk hf rfl ?_
      refine C.aload_n dX3_canMelt_27 rfl ?_
      refine C.getf gf_X3_21 dX3_canMelt_28 hk' hf' rfl ?_
      refine C.icmp_eqI (tgt := 36) dX3_canMelt_31 (by decide) (by omega) (by omega) (fun hc31 => ?_) (fun hc31 => ?_)
      · refine C.aload_n dX3_canMelt_36 rfl ?_
        refine C.getf gf_X3_25 dX3_canMelt_37 hk' hf' rfl ?_
        refine C.astore_n dX3_canMelt_40 (by decide) rfl ?_
        refine C.aload_n dX3_canMelt_41 rfl ?_
        refine C.alenI dX3_canMelt_42 he' hfe' (by decide) ?_
        refine C.istore_n dX3_canMelt_43 (by decide) rfl ?_
        refine C.ic dX3_canMelt_44 ?_
        refine C.istore dX3_canMelt_45 (by decide) rfl ?_
        have h2 := b2i_t hc20
        unfold aLk at h2
        have h3 := of_decide_eq_true h2
        exact loop ⟨Prod.ext h3.1 (Prod.ext h3.2.1 hc31), h3.2.2⟩ (by omega) y.1.1 [] rfl (fun v hv => by cases hv) _
      · exact no (canM_no (by
          first
            | exact Or.inr (Or.inl (by omega))
            | (refine Or.inl (fun q => ?_)
               have h2 := b2i_f hc20
               unfold aLk at h2
               rw [decide_eq_false_iff_not] at h2
               exact h2 ⟨by rw [q.1], by rw [q.1], q.2⟩)
            | (refine Or.inl (fun q => ?_)
               exact hc31 (by rw [q.1]))))
/-- the condition that easing begins with -/
def ezT : Option TT → Option TT → TT
  | some a, none => a
  | none, some b => .not b
  | some a, some b => .and a (.not b)
  | none, none => .count 0
theorem jL_lvs1 (kd : Int) (t : TT) : (jL kd t).length ≤ lvs t := (jL_lvs kd t).1
set_option maxRecDepth 20000 in
set_option maxHeartbeats 2000000 in
theorem s_eased {N : Nat} (hN : N < 900) (hd : D + 6 ≤ d) (hD : D + 2 ≤ 41) (h : SAt L f D k x) (hx : SOk x) (hc : canE x = true) (hlv : lvs (ezT x.2.2.1 x.2.2.2) ≤ N) (hlen : (cdO (ezO x.2.2.1 x.2.2.2)).length ≤ 400) : AM yX3_eased cX3_eased 3 (some (.object "PlainWords$Sentence")) d (kc (ezT x.2.2.1 x.2.2.2) + 7) (ks N (ezT x.2.2.1 x.2.2.2) + N + 24) [.ref k] L f (NwS L f (D + (if isS x.2.2.2 then 2 else 0)) (ezS x)) := by
  obtain ⟨⟨hk, hk2⟩, e, w, u, hf, he, hw, hu⟩ := h
  have hz := hx.1.2.2.2.1
  generalize hmc : kc (ezT x.2.2.1 x.2.2.2) + 7 = mc
  generalize hms : ks N (ezT x.2.2.1 x.2.2.2) + N + 24 = ms
  generalize hDD : D + (if isS x.2.2.2 then 2 else 0) = DD
  refine AM.of (by decide +kernel) (by simp [Value.category]) (Nat.le_of_ble_eq_true rfl) false (fun h => by cases h) (fun X C => ?_)
  have fin : ∀ (t : TT) (v1 v2 : Option Value) (ce sl qz : Nat) (L1 : List Nat) (f1 : Nat → AC), isT t → ezO x.2.2.1 x.2.2.2 = some (ez t) → CAt L1 f1 DD qz (ez t) → Fo L f L1 f1 → ce + 1 ≤ mc → sl + 7 ≤ ms → nw [some (.ref k), v1, v2] 2 = true → X ce sl L1 f1 54 [some (.ref k), v1, v2] [.ref qz] := by
    intro t v1 v2 ce sl qz L1 f1 ht ho hC hF hce hsl hnw
    have hk1 := hF.1 k hk
    have hf1 := (hF.2 k hk).trans hf
    refine C.astore_n dX3_eased_54 (by decide) hnw ?_
    refine C.new nf_X3_10 dX3_eased_55 hce hsl (fun q hq2 hqL => ?_)
    have hkq : k ≠ q := fun h => hqL (h ▸ hk1)
    have hfk : ∀ y, va_up f1 q y k = .inr (6, SO x e w u) := fun y => (va_up_ne _ _ hkq).trans hf1
    have hkL : k ∈ L1 ++ [q] := List.mem_append_left _ hk1
    refine C.dup dX3_eased_58 rfl ?_
    refine C.aload_n dX3_eased_59 rfl ?_
    refine C.getf gf_X3_9 dX3_eased_60 hkL (hfk _) rfl ?_
    refine C.aload_n dX3_eased_63 rfl ?_
    refine C.getf gf_X3_15 dX3_eased_64 hkL (hfk _) rfl ?_
    refine C.aload_n dX3_eased_67 rfl ?_
    refine C.getf gf_X3_18 dX3_eased_68 hkL (hfk _) rfl ?_
    refine C.aload_n dX3_eased_71 rfl ?_
    refine C.getf gf_X3_21 dX3_eased_72 hkL (hfk _) rfl ?_
    refine C.aload_n dX3_eased_75 rfl ?_
    refine C.getf gf_X3_25 dX3_eased_76 hkL (hfk _) rfl ?_
    refine C.aload_n dX3_eased_79 rfl ?_
    refine C.null dX3_eased_80 ?_
    skip
    refine C.callI (s_init (d := d - 1) (w := some qz) (u := none) (by omega) hz (List.mem_append_right _ List.mem_cons_self) (va_up_self _ _ _)) cw_X3_init ml_X3_36 im_X3_init rfl dX3_eased_81 rfl (by omega) hce hsl (Nat.le_of_ble_eq_true rfl) rfl (fun r L9 f9 h9 => ?_)
    obtain ⟨rfl, rfl, rfl⟩ := h9
    rw [up_up]
    have hF1 : ∀ y, Fo L1 f1 (L1 ++ [q]) (va_up f1 q y) := fun y => Fo.new hqL
    refine C.aret rfl (Or.inl ⟨_, rfl⟩) dX3_eased_84 hce hsl ⟨q, rfl, ⟨⟨List.mem_append_right _ List.mem_cons_self, hq2⟩, e, some qz, none, va_up_self _ _ _, he.keep (hF.tr (hF1 _)).p, ?_, trivial⟩, hF.tr (hF1 _)⟩
    show OAt _ _ _ (some qz) (ezO x.2.2.1 x.2.2.2)
    rw [ho] at hlen ⊢
    exact ⟨CAt.keep (hF1 _).p _ hC, isT_ez t ht, hlen⟩
  refine C.aload_n dX3_eased_0 rfl ?_
  refine C.getf gf_X3_29 dX3_eased_1 hk hf rfl ?_
  skip
  refine C.astore_nO dX3_eased_4 (by decide) rfl ?_
  refine C.aload_n dX3_eased_5 rfl ?_
  refine C.getf gf_X3_33 dX3_eased_6 hk hf rfl ?_
  skip
  rcases hu.cases with ⟨rfl, eu⟩ | ⟨qu, tu, pu, rfl, eu, hCu, htu, hlu, hquL, hfqu⟩
  · rcases hw.cases with ⟨rfl, ew⟩ | ⟨qw, tw, pw, rfl, ew, hCw, htw, hlw, hqwL, hfqw⟩
    · rw [show canE x = false by unfold canE; rw [eu, ew]; rfl] at hc
      cases hc
    · rw [ew, eu] at hmc hms hlv
      rw [eu] at hDD
      change kc tw + 7 = mc at hmc
      change ks N tw + N + 24 = ms at hms
      change D + 0 = DD at hDD
      have hM := c_eased hN D (d := d - 1) (dp := 0) (by omega) (by omega) htw hlv hCw
      refine C.ifnullN (tgt := 41) dX3_eased_9 (by decide) ?_
      refine C.aload_n dX3_eased_41 rfl ?_
      refine C.ifnonnull (tgt := 49) dX3_eased_42 (by decide) ?_
      refine C.aload_n dX3_eased_49 rfl ?_
      refine C.ic dX3_eased_50 ?_
      refine C.callSN (hM) cw_X0_eased (fun h => h.2.2.1.1) sm_X0_eased dX3_eased_51 rfl (by omega) (by omega) (by omega) (Nat.le_of_ble_eq_true rfl) rfl (fun r51 L51 f51 hR51 => ?_)
      obtain ⟨qz, rfl, hCz, hFz⟩ := hR51
      exact fin tw _ _ _ _ qz _ _ htw (by rw [ew, eu]; rfl) (CAt.mono D (by omega) hCz) hFz (by omega) (by omega) rfl
  · have hM1 := c_negated (d := d - 1) (by omega) htu hCu
    rcases hw.cases with ⟨rfl, ew⟩ | ⟨qw, tw, pw, rfl, ew, hCw, htw, hlw, hqwL, hfqw⟩
    · rw [ew, eu] at hmc hms hlv
      rw [eu] at hDD
      change kc (.not tu) + 7 = mc at hmc
      change ks N (.not tu) + N + 24 = ms at hms
      change D + 2 = DD at hDD
      refine C.ifnull dX3_eased_9 ?_
      refine C.aload_n dX3_eased_12 rfl ?_
      refine C.getf gf_X3_33 dX3_eased_13 hk hf rfl ?_
      refine C.callS (hM1) cw_X0_negated ml_X3_48 sm_X0_negated dX3_eased_16 rfl (by omega) (by omega) (by omega) (Nat.le_of_ble_eq_true rfl) rfl (fun r16 L16 f16 hR16 => ?_)
      obtain ⟨qn, rfl, hCn, hFn⟩ := hR16
      have hkn := hFn.1 k hk
      have hfn := (hFn.2 k hk).trans hf
      refine C.astore_n dX3_eased_19 (by decide) rfl ?_
      refine C.aload_n dX3_eased_20 rfl ?_
      refine C.getf gf_X3_29 dX3_eased_21 hkn hfn rfl ?_
      refine C.ifnonnullN dX3_eased_24 ?_
      refine C.aload_n dX3_eased_27 rfl ?_
      refine C.goto (tgt := 40) dX3_eased_28 (by decide) ?_
      refine C.astore_n dX3_eased_40 (by decide) rfl ?_
      refine C.aload_n dX3_eased_41 rfl ?_
      refine C.ifnonnull (tgt := 49) dX3_eased_42 (by decide) ?_
      refine C.aload_n dX3_eased_49 rfl ?_
      refine C.ic dX3_eased_50 ?_
      skip
      have hM := c_eased hN (D + 1) (d := d - 1) (dp := 0) (t := .not tu) (by omega) (by omega) htu hlv hCn
      refine C.callSN (hM) cw_X0_eased (fun h => h.2.2.1.1) sm_X0_eased dX3_eased_51 rfl (by omega) (by omega) (by omega) (Nat.le_of_ble_eq_true rfl) rfl (fun r51 L51 f51 hR51 => ?_)
      obtain ⟨qz, rfl, hCz, hFz⟩ := hR51
      exact fin (.not tu) _ _ _ _ qz _ _ htu (by rw [ew, eu]; rfl) (CAt.mono (D + 1) (by omega) hCz) (hFn.tr hFz) (by omega) (by omega) rfl
    · rw [ew, eu] at hmc hms hlv
      rw [eu] at hDD
      change kc (.and tw (.not tu)) + 7 = mc at hmc
      change ks N (.and tw (.not tu)) + N + 24 = ms at hms
      change D + 2 = DD at hDD
      change lvs tw + lvs tu ≤ N at hlv
      have l1 := jL_lvs1 1 tw
      have l2 := jL_lvs1 1 (.not tu)
      change (jL 1 (.not tu)).length ≤ lvs tu at l2
      refine C.ifnull dX3_eased_9 ?_
      refine C.aload_n dX3_eased_12 rfl ?_
      refine C.getf gf_X3_33 dX3_eased_13 hk hf rfl ?_
      refine C.callS (hM1) cw_X0_negated ml_X3_48 sm_X0_negated dX3_eased_16 rfl (by omega) (by omega) (by omega) (Nat.le_of_ble_eq_true rfl) rfl (fun r16 L16 f16 hR16 => ?_)
      obtain ⟨qn, rfl, hCn, hFn⟩ := hR16
      have hkn := hFn.1 k hk
      have hfn := (hFn.2 k hk).trans hf
      refine C.astore_n dX3_eased_19 (by decide) rfl ?_
      refine C.aload_n dX3_eased_20 rfl ?_
      refine C.getf gf_X3_29 dX3_eased_21 hkn hfn rfl ?_
      refine C.ifnonnull (tgt := 31) dX3_eased_24 (by decide) ?_
      refine C.ic dX3_eased_31 ?_
      refine C.aload_n dX3_eased_32 rfl ?_
      refine C.getf gf_X3_29 dX3_eased_33 hkn hfn rfl ?_
      refine C.aload_n dX3_eased_36 rfl ?_
      skip
      have hM2 := c_joined (d := d - 1) (D := D + 1) (kd := 1) (by omega) (Or.inr rfl) htw (b := .not tu) htu (JAt.of (CAt.mono D (by omega) (CAt.keep hFn.p D hCw))) (JAt.of hCn) (by omega)
      refine C.callS (hM2) cw_X0_joined ml_X3_52 sm_X0_joined dX3_eased_37 rfl (by omega) (by omega) (by omega) (Nat.le_of_ble_eq_true rfl) rfl (fun r37 L37 f37 hR37 => ?_)
      obtain ⟨qj, rfl, hCj, hFj⟩ := hR37
      change CAt _ _ _ _ (.and tw (.not tu)) at hCj
      refine C.astore_n dX3_eased_40 (by decide) rfl ?_
      refine C.aload_n dX3_eased_41 rfl ?_
      refine C.ifnonnull (tgt := 49) dX3_eased_42 (by decide) ?_
      refine C.aload_n dX3_eased_49 rfl ?_
      refine C.ic dX3_eased_50 ?_
      skip
      have hM := c_eased hN (D + 2) (d := d - 1) (dp := 0) (t := .and tw (.not tu)) (by omega) (by omega) ⟨htw, htu⟩ hlv hCj
      refine C.callSN (hM) cw_X0_eased (fun h => h.2.2.1.1) sm_X0_eased dX3_eased_51 rfl (by omega) (by omega) (by omega) (Nat.le_of_ble_eq_true rfl) rfl (fun r51 L51 f51 hR51 => ?_)
      obtain ⟨qz, rfl, hCz, hFz⟩ := hR51
      exact fin (.and tw (.not tu)) _ _ _ _ qz _ _ ⟨htw, htu⟩ (by rw [ew, eu]; rfl) (CAt.mono (D + 2) (by omega) hCz) ((hFn.tr hFj).tr hFz) (by omega) (by omega) rfl
end SEN4
