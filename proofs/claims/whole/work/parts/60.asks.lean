def hA (x : Sen) (a : Int) : Bool := x.1.1.any (fun v => decide (v = a))
set_option maxRecDepth 20000 in
theorem m_hasAct {d s : Nat} {x : Sen} {a : Int} {sf : SF} {sa : SA} (hs : s < 100) (ha : i3 a) (hx : SenAt sa s x) (hok : SOk x) : MM yX9_hasAct cX9_hasAct 5 (some .boolean) d [.int (iI s), .int (iI a)] sf sa (fun r sf' sa' => r = some (.int (iI (b2i (hA x a)))) ∧ sf' = sf ∧ sa' = sa) := by
  unfold i3 at ha
  obtain ⟨b1, b2, _⟩ := hx.1
  have k1 := hok.1.1.1
  have k3 := hok.1.1.2.2.1
  unfold hA
  generalize x.1.1 = xs at *
  refine MM.of2 (by decide +kernel) rfl (Nat.le_of_ble_eq_true rfl) (fun L g hL X C => ?_)
  have loop : ∀ (ys done : List Int), xs = done ++ ys → X 0 0 L (ov sf sa g) 5 [some (.ref 20), some (.int (iI s)), some (.int (iI a)), some (.int (iI (b2i (done.any (fun v => decide (v = a)))))), some (.int (iI done.length))] [] := by
    intro ys
    induction ys with
    | nil =>
      intro done hd
      rw [List.append_nil] at hd
      subst hd
      refine C.iload dX9_hasAct_5 rfl ?_
      refine C.aload_n dX9_hasAct_7 rfl ?_
      refine C.mget hL gf_X9_9 dX9_hasAct_8 rfl ?_
      refine C.iload_n dX9_hasAct_11 rfl ?_
      refine C.maldk hL dX9_hasAct_12 (by decide) rfl (by decide) rfl (by omega) ?_
      refine C.topI (b := (xs.length : Int)) b1 ?_
      refine C.icmp_geI (tgt := 47) dX9_hasAct_13 (by decide) (by omega) (by omega) (fun hc13 => ?_) (fun hc13 => absurd hc13 (by omega))
      refine C.iload_n dX9_hasAct_47 rfl ?_
      refine C.retI rfl ((iI_bool (b2i_rng _)).1) dX9_hasAct_48 (Nat.le_refl _) (Nat.le_refl _) ⟨_, _, ?_, rfl, rfl⟩
      exact ⟨rfl, rfl, rfl⟩
    | cons y ys ih =>
      intro done hd
      have hxl : xs.length = done.length + (ys.length + 1) := by rw [hd, List.length_append, List.length_cons]
      have ey : sa 22 (3 * s + done.length) = y := by
        rw [b2 done.length (by omega), hd, List.getD_eq_getElem?_getD, List.getElem?_append_right (Nat.le_refl _), Nat.sub_self]
        rfl
      have hyr := k3 y (by rw [hd]; exact List.mem_append_right _ List.mem_cons_self)
      have nx := ih (done ++ [y]) (by rw [hd, List.append_assoc]; rfl)
      simp only [List.any_append, List.any_cons, List.any_nil, Bool.or_false, List.length_append, List.length_cons, List.length_nil] at nx
      generalize done.any (fun v => decide (v = a)) = A at *
      refine C.iload dX9_hasAct_5 rfl ?_
      refine C.aload_n dX9_hasAct_7 rfl ?_
      refine C.mget hL gf_X9_9 dX9_hasAct_8 rfl ?_
      refine C.iload_n dX9_hasAct_11 rfl ?_
      refine C.maldk hL dX9_hasAct_12 (by decide) rfl (by decide) rfl (by omega) ?_
      refine C.topI (b := (xs.length : Int)) b1 ?_
      refine C.icmp_geI (tgt := 47) dX9_hasAct_13 (by decide) (by omega) (by omega) (fun hc13 => absurd hc13 (by omega)) (fun hc13 => ?_)
      refine C.iload_n dX9_hasAct_16 rfl ?_
      refine C.if_neI (tgt := 35) dX9_hasAct_17 (by decide) (b2i_r3 _) (fun hc17 => ?_) (fun hc17 => ?_)
      · refine C.ic dX9_hasAct_35 ?_
        refine C.goto (tgt := 40) dX9_hasAct_36 (by decide) ?_
        refine C.topI (b := b2i (A || decide (y = a))) (by first | exact or1 hc17 | exact or2 hc17 (by rw [decide_eq_true hc32]; decide) | exact or3 hc17 (by rw [decide_eq_false hc32]; rfl)) ?_
        refine C.istore_n dX9_hasAct_40 (by decide) rfl ?_
        refine C.iincI dX9_hasAct_41 rfl (by decide) rfl ?_
        refine C.goto (tgt := 5) dX9_hasAct_44 (by decide) ?_
        exact nx
      · refine C.aload_n dX9_hasAct_20 rfl ?_
        refine C.mget hL gf_X9_13 dX9_hasAct_21 rfl ?_
        refine C.ic dX9_hasAct_24 ?_
        refine C.iload_n dX9_hasAct_25 rfl ?_
        refine C.imulI dX9_hasAct_26 ?_
        refine C.iload dX9_hasAct_27 rfl ?_
        refine C.iaddI dX9_hasAct_29 ?_
        refine C.maldk hL (k := 3 * s + done.length) dX9_hasAct_30 (by decide) rfl (by decide) (by omega) (by omega) ?_
        refine C.topI (b := y) ey ?_
        refine C.iload_n dX9_hasAct_31 rfl ?_
        refine C.icmp_neI (tgt := 39) dX9_hasAct_32 (by decide) (by omega) (by omega) (fun hc32 => ?_) (fun hc32 => ?_)
        · refine C.ic dX9_hasAct_39 ?_
          refine C.topI (b := b2i (A || decide (y = a))) (by first | exact or1 hc17 | exact or2 hc17 (by rw [decide_eq_true hc32]; decide) | exact or3 hc17 (by rw [decide_eq_false hc32]; rfl)) ?_
          refine C.istore_n dX9_hasAct_40 (by decide) rfl ?_
          refine C.iincI dX9_hasAct_41 rfl (by decide) rfl ?_
          refine C.goto (tgt := 5) dX9_hasAct_44 (by decide) ?_
          exact nx
        · refine C.ic dX9_hasAct_35 ?_
          refine C.goto (tgt := 40) dX9_hasAct_36 (by decide) ?_
          refine C.topI (b := b2i (A || decide (y = a))) (by first | exact or1 hc17 | exact or2 hc17 (by rw [decide_eq_true hc32]; decide) | exact or3 hc17 (by rw [decide_eq_false hc32]; rfl)) ?_
          refine C.istore_n dX9_hasAct_40 (by decide) rfl ?_
          refine C.iincI dX9_hasAct_41 rfl (by decide) rfl ?_
          refine C.goto (tgt := 5) dX9_hasAct_44 (by decide) ?_
          exact nx
  have := loop xs [] rfl
  refine C.ic dX9_hasAct_0 ?_
  refine C.istore_n dX9_hasAct_1 (by decide) rfl ?_
  refine C.ic dX9_hasAct_2 ?_
  refine C.istore dX9_hasAct_3 (by decide) rfl ?_
  exact this
/-- whether a sentence asks for the act so -/
def akP (cs wh mo dy ac : Int) (y : Sen) : Bool := decide (y.1.2.1 = wh ∧ y.1.2.2.1 = mo ∧ y.2.1 = dy) && (hA y ac && cnS cs y)
theorem akP_ff {cs wh mo dy ac : Int} {y : Sen} (h : ¬ (y.1.2.1 = wh ∧ y.1.2.2.1 = mo ∧ y.2.1 = dy)) : akP cs wh mo dy ac y = false := by unfold akP; rw [decide_eq_false h]; rfl
theorem akP_f2 {cs wh mo dy ac : Int} {y : Sen} (h : b2i (hA y ac) = 0) : akP cs wh mo dy ac y = false := by
  unfold akP
  cases hq : hA y ac with
  | false => simp
  | true => rw [hq] at h; exact absurd h (by decide)
theorem akP_f3 {cs wh mo dy ac : Int} {y : Sen} (h : b2i (cnS cs y) = 0) : akP cs wh mo dy ac y = false := by
  unfold akP
  cases hq : cnS cs y with
  | false => simp
  | true => rw [hq] at h; exact absurd h (by decide)
theorem b2i_t {b : Bool} (h : ¬ b2i b = 0) : b = true := by cases b with
  | true => rfl
  | false => exact absurd rfl h
theorem b2i_f {b : Bool} (h : b2i b = 0) : b = false := by cases b with
  | false => rfl
  | true => exact absurd h (by decide)
theorem akP_t {cs wh mo dy ac : Int} {y : Sen} (h1 : y.1.2.1 = wh ∧ y.1.2.2.1 = mo ∧ y.2.1 = dy) (h2 : ¬ b2i (hA y ac) = 0) (h3 : ¬ b2i (cnS cs y) = 0) : akP cs wh mo dy ac y = true := by
  unfold akP
  rw [decide_eq_true h1, b2i_t h2, b2i_t h3]
  rfl
set_option maxRecDepth 20000 in
theorem m_asks {d b : Nat} {ys : List Sen} {cs wh mo dy ac : Int} {sf : SF} {sa : SA} (hd : 403 ≤ d) (hb : b + ys.length ≤ 100) (h1 : i3 cs) (h2 : i3 wh) (h3 : i3 mo) (h4 : i3 dy) (h5 : i3 ac) (hy : SensAt sa b ys) (hok : ∀ y ∈ ys, SOk y) : MM yX9_asks cX9_asks 9 (some .boolean) d [.int (iI b), .int (iI ys.length), .int (iI cs), .int (iI wh), .int (iI mo), .int (iI dy), .int (iI ac)] sf sa (fun r sf' sa' => r = some (.int (iI (b2i (ys.any (akP cs wh mo dy ac))))) ∧ Gf sf sf' ∧ sa' = sa) := by
  have h2' := h2
  have h3' := h3
  have h4' := h4
  unfold i3 at h2' h3' h4'
  refine MM.of2 (by decide +kernel) rfl (Nat.le_of_ble_eq_true rfl) (fun L g hL X C => ?_)
  have loop : ∀ (zs done : List Sen) (sfc : SF), ys = done ++ zs → done.any (akP cs wh mo dy ac) = false → Gf sf sfc → X 0 0 L (ov sfc sa g) 3 [some (.ref 20), some (.int (iI b)), some (.int (iI ys.length)), some (.int (iI cs)), some (.int (iI wh)), some (.int (iI mo)), some (.int (iI dy)), some (.int (iI ac)), some (.int (iI ((b + done.length : Nat) : Int)))] [] := by
    intro zs
    induction zs with
    | nil =>
      intro done sfc hd2 hn hg
      rw [List.append_nil] at hd2
      subst hd2
      refine C.iload dX9_asks_3 rfl ?_
      refine C.iload_n dX9_asks_5 rfl ?_
      refine C.iload_n dX9_asks_6 rfl ?_
      refine C.iaddI dX9_asks_7 ?_
      refine C.icmp_geI (tgt := 76) dX9_asks_8 (by decide) (by omega) (by omega) (fun hc8 => ?_) (fun hc8 => absurd hc8 (by omega))
      refine C.ic dX9_asks_76 ?_
      refine C.retI rfl (by first | rfl | (exact (iI_bool (by first | exact Or.inl rfl | exact Or.inr rfl | assumption)).1)) dX9_asks_77 (Nat.le_refl _) (Nat.le_refl _) ⟨_, _, ?_, rfl, rfl⟩
      rw [hn]
      exact ⟨rfl, hg, rfl⟩
    | cons y zs ih =>
      intro done sfc hd2 hn hg
      have hxl : ys.length = done.length + (zs.length + 1) := by rw [hd2, List.length_append, List.length_cons]
      have hyi : ys[done.length]? = some y := by
        rw [hd2, List.getElem?_append_right (Nat.le_refl _), Nat.sub_self]
        rfl
      have hyo := hok y (List.mem_of_getElem? hyi)
      have hyA := hy _ y hyi
      have k5 := hyo.1.2.1
      have k6 := hyo.1.2.2.1
      have k9 := hyo.2
      have e23 : sa 23 (b + done.length) = y.1.2.1 := hyA.1.2.2.1
      have e24 : sa 24 (b + done.length) = y.1.2.2.1 := hyA.1.2.2.2.1
      have e25 : sa 25 (b + done.length) = y.2.1 := hyA.2.1
      have hM1 := m_hasAct (d := d - 1) (sf := sfc) (by omega) h5 hyA hyo
      have hM2 := m_counts (d := d - 1) (sf := sfc) (by omega) (by omega) h1 hyA
      have nx : akP cs wh mo dy ac y = false → ∀ sf2, Gf sfc sf2 → X 0 0 L (ov sf2 sa g) 3 [some (.ref 20), some (.int (iI b)), some (.int (iI ys.length)), some (.int (iI cs)), some (.int (iI wh)), some (.int (iI mo)), some (.int (iI dy)), some (.int (iI ac)), some (.int (iI ((b + done.length : Nat) + 1 : Int)))] [] := fun hf sf2 g2 => by
        have := ih (done ++ [y]) sf2 (by rw [hd2, List.append_assoc]; rfl) (by rw [List.any_append, hn]; simp [hf]) (hg.tr g2)
        rw [List.length_append] at this
        exact this
      have yes : akP cs wh mo dy ac y = true → ys.any (akP cs wh mo dy ac) = true := fun h => List.any_eq_true.mpr ⟨y, List.mem_of_getElem? hyi, h⟩
      refine C.iload dX9_asks_3 rfl ?_
      refine C.iload_n dX9_asks_5 rfl ?_
      refine C.iload_n dX9_asks_6 rfl ?_
      refine C.iaddI dX9_asks_7 ?_
      refine C.icmp_geI (tgt := 76) dX9_asks_8 (by decide) (by omega) (by omega) (fun hc8 => absurd hc8 (by omega)) (fun hc8 => ?_)
      refine C.aload_n dX9_asks_11 rfl ?_
      refine C.mget hL gf_X9_16 dX9_asks_12 rfl ?_
      refine C.iload dX9_asks_15 rfl ?_
      refine C.maldk hL dX9_asks_17 (by decide) rfl (by decide) rfl (by omega) ?_
      refine C.topI (b := y.1.2.1) e23 ?_
      refine C.iload dX9_asks_18 rfl ?_
      refine C.icmp_neI (tgt := 70) dX9_asks_20 (by decide) (by omega) (by omega) (fun hc20 => ?_) (fun hc20 => ?_)
      · refine C.iincI dX9_asks_70 rfl (by decide) rfl ?_
        refine C.goto (tgt := 3) dX9_asks_73 (by decide) ?_
        first | exact nx (akP_ff (fun q => by omega)) _ Gf.rf | exact nx (akP_f2 hc55) _ Gf.rf | exact nx (akP_f3 hc65) _ hg2
      · refine C.aload_n dX9_asks_23 rfl ?_
        refine C.mget hL gf_X9_19 dX9_asks_24 rfl ?_
        refine C.iload dX9_asks_27 rfl ?_
        refine C.maldk hL dX9_asks_29 (by decide) rfl (by decide) rfl (by omega) ?_
        refine C.topI (b := y.1.2.2.1) e24 ?_
        refine C.iload dX9_asks_30 rfl ?_
        refine C.icmp_neI (tgt := 70) dX9_asks_32 (by decide) (by omega) (by omega) (fun hc32 => ?_) (fun hc32 => ?_)
        · refine C.iincI dX9_asks_70 rfl (by decide) rfl ?_
          refine C.goto (tgt := 3) dX9_asks_73 (by decide) ?_
          first | exact nx (akP_ff (fun q => by omega)) _ Gf.rf | exact nx (akP_f2 hc55) _ Gf.rf | exact nx (akP_f3 hc65) _ hg2
        · refine C.aload_n dX9_asks_35 rfl ?_
          refine C.mget hL gf_X9_22 dX9_asks_36 rfl ?_
          refine C.iload dX9_asks_39 rfl ?_
          refine C.maldk hL dX9_asks_41 (by decide) rfl (by decide) rfl (by omega) ?_
          refine C.topI (b := y.2.1) e25 ?_
          refine C.iload dX9_asks_42 rfl ?_
          refine C.icmp_neI (tgt := 70) dX9_asks_44 (by decide) (by omega) (by omega) (fun hc44 => ?_) (fun hc44 => ?_)
          · refine C.iincI dX9_asks_70 rfl (by decide) rfl ?_
            refine C.goto (tgt := 3) dX9_asks_73 (by decide) ?_
            first | exact nx (akP_ff (fun q => by omega)) _ Gf.rf | exact nx (akP_f2 hc55) _ Gf.rf | exact nx (akP_f3 hc65) _ hg2
          · refine C.aload_n dX9_asks_47 rfl ?_
            refine C.iload dX9_asks_48 rfl ?_
            refine C.iload dX9_asks_50 rfl ?_
            refine C.mcall hL (hM1) cw_X9_hasAct ml_X9_333 im_X9_hasAct sl_X9_hasAct dX9_asks_52 rfl rfl (by omega) (Nat.le_refl _) (Nat.le_refl _) (Nat.le_of_ble_eq_true rfl) rfl (fun r52 sf52 sa52 hR52 => ?_)
            obtain ⟨rfl, hs, ha⟩ := hR52
            rw [hs, ha]
            clear hs ha
            refine C.if_eqI (tgt := 70) dX9_asks_55 (by decide) (b2i_r3 _) (fun hc55 => ?_) (fun hc55 => ?_)
            · refine C.iincI dX9_asks_70 rfl (by decide) rfl ?_
              refine C.goto (tgt := 3) dX9_asks_73 (by decide) ?_
              first | exact nx (akP_ff (fun q => by omega)) _ Gf.rf | exact nx (akP_f2 hc55) _ Gf.rf | exact nx (akP_f3 hc65) _ hg2
            · refine C.aload_n dX9_asks_58 rfl ?_
              refine C.iload dX9_asks_59 rfl ?_
              refine C.iload_n dX9_asks_61 rfl ?_
              refine C.mcall hL (hM2) cw_X9_counts ml_X9_336 im_X9_counts sl_X9_counts dX9_asks_62 rfl rfl (by omega) (Nat.le_refl _) (Nat.le_refl _) (Nat.le_of_ble_eq_true rfl) rfl (fun r62 sf62 sa62 hR62 => ?_)
              obtain ⟨rfl, hg2, ha2⟩ := hR62
              rw [ha2]
              clear ha2
              refine C.if_eqI (tgt := 70) dX9_asks_65 (by decide) (b2i_r3 _) (fun hc65 => ?_) (fun hc65 => ?_)
              · refine C.iincI dX9_asks_70 rfl (by decide) rfl ?_
                refine C.goto (tgt := 3) dX9_asks_73 (by decide) ?_
                first | exact nx (akP_ff (fun q => by omega)) _ Gf.rf | exact nx (akP_f2 hc55) _ Gf.rf | exact nx (akP_f3 hc65) _ hg2
              · refine C.ic dX9_asks_68 ?_
                refine C.retI rfl (by first | rfl | (exact (iI_bool (by first | exact Or.inl rfl | exact Or.inr rfl | assumption)).1)) dX9_asks_69 (Nat.le_refl _) (Nat.le_refl _) ⟨_, _, ?_, rfl, rfl⟩
                rw [yes (akP_t ⟨by omega, by omega, by omega⟩ hc55 hc65)]
                exact ⟨rfl, hg.tr hg2, rfl⟩
  have := loop ys [] sf rfl rfl Gf.rf
  refine C.iload_n dX9_asks_0 rfl ?_
  refine C.istore dX9_asks_1 (by decide) rfl ?_
  exact this
