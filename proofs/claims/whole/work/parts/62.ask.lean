def orv (a m : Int) : Int := (iI a ||| (iI 1 <<< (iI m &&& 31))).toInt
theorem orv_iI (a m : Int) : iI a ||| (iI 1 <<< (iI m &&& 31)) = iI (orv a m) := (Int32.ofInt_toInt _).symm
/-- whether a sentence tells who of an act in the cases -/
def akQ (wh ac cs : Int) (y : Sen) : Bool := decide (y.1.2.1 = wh) && (hA y ac && cnS cs y)
def akS (wh ac cs : Int) (a : Int) (y : Sen) : Int := if akQ wh ac cs y then orv a y.1.2.2.1 else a
theorem akQ_f1 {wh ac cs : Int} {y : Sen} (h : ¬ y.1.2.1 = wh) : akQ wh ac cs y = false := by unfold akQ; rw [decide_eq_false h]; rfl
theorem akQ_f2 {wh ac cs : Int} {y : Sen} (h : b2i (hA y ac) = 0) : akQ wh ac cs y = false := by unfold akQ; rw [b2i_f h]; simp
theorem akQ_f3 {wh ac cs : Int} {y : Sen} (h : b2i (cnS cs y) = 0) : akQ wh ac cs y = false := by unfold akQ; rw [b2i_f h]; simp
theorem akQ_t {wh ac cs : Int} {y : Sen} (h1 : y.1.2.1 = wh) (h2 : ¬ b2i (hA y ac) = 0) (h3 : ¬ b2i (cnS cs y) = 0) : akQ wh ac cs y = true := by unfold akQ; rw [decide_eq_true h1, b2i_t h2, b2i_t h3]; rfl
set_option maxRecDepth 20000 in
set_option maxHeartbeats 2000000 in
theorem m_ask {d : Nat} {xs ys : List Sen} {bo : Bool} {wh ac cs : Int} {sf : SF} {sa : SA} (hd : 404 ≤ d) (i1 : i3 wh) (i2 : i3 ac) (i4 : i3 cs) (h13 : sf 13 = 0 ∨ sf 13 = 1) (h9 : sf 9 = xs.length) (h10 : sf 10 = ys.length) (hx : SensAt sa 0 xs) (hy : SensAt sa 24 ys) (lx : xs.length ≤ 8) (ly : ys.length ≤ 24) (okx : ∀ x ∈ xs, SOk x) (oky : ∀ x ∈ ys, SOk x) : MM yX9_ask cX9_ask 8 (some .int) d [.int (iI (b2i bo)), .int (iI wh), .int (iI ac), .int (iI cs)] sf sa (fun r sf' sa' => (sf 13 = 0 → r = some (.int (iI 0)) ∧ sf' = va_up sf 0 1 ∧ sa' = sa) ∧ (sf 13 = 1 → r = some (.int (iI ((if bo then xs else ys).foldl (akS wh ac cs) 0))) ∧ Gf (va_up sf 0 0) sf' ∧ sa' = sa)) := by
  have i1' := i1
  unfold i3 at i1'
  rcases h13 with h13 | h13
  · have hT := m_throwsIf (d := d - 1) (sf := va_up sf 0 0) (sa := sa) (b := 1) (z := 1) (Or.inr rfl)
    rw [if_neg (by decide)] at hT
    refine MM.of2 (by decide +kernel) rfl (Nat.le_of_ble_eq_true rfl) (fun L g hL X C => ?_)
    refine C.aload_n dX9_ask_0 rfl ?_
    refine C.ic dX9_ask_1 ?_
    refine C.mput hL pf_X9_59 dX9_ask_2 (by decide) rfl ?_
    refine C.aload_n dX9_ask_5 rfl ?_
    refine C.aload_n dX9_ask_6 rfl ?_
    refine C.mget hL gf_X9_219 dX9_ask_7 rfl ?_
    refine C.topI (b := 0) h13 ?_
    refine C.if_neI (tgt := 17) dX9_ask_10 (by decide) (by omega) (fun hc10 => absurd hc10 (fun h => h rfl)) (fun hc10 => ?_)
    refine C.ic dX9_ask_13 ?_
    refine C.goto (tgt := 18) dX9_ask_14 (by decide) ?_
    refine C.ic dX9_ask_18 ?_
    refine C.mcall hL (hT) cw_X9_throwsIf ml_X9_209 im_X9_throwsIf sl_X9_throwsIf dX9_ask_19 rfl rfl (by omega) (Nat.le_refl _) (Nat.le_refl _) (Nat.le_of_ble_eq_true rfl) rfl (fun r19 sf19 sa19 hR19 => ?_)
    obtain ⟨rfl, hs, ha⟩ := hR19
    rw [hs, ha]
    clear hs ha
    refine C.if_eqI (tgt := 27) dX9_ask_22 (by decide) (by decide) (fun hc22 => absurd hc22 (by decide)) (fun hc22 => ?_)
    refine C.ic dX9_ask_25 ?_
    refine C.retI rfl (by first | rfl | (exact (iI_bool (by first | exact Or.inl rfl | exact Or.inr rfl | assumption)).1)) dX9_ask_26 (Nat.le_refl _) (Nat.le_refl _) ⟨_, _, ?_, rfl, rfl⟩
    refine ⟨fun _ => ⟨rfl, up00, rfl⟩, fun h => absurd (h13.symm.trans h) (by decide)⟩
  · have hT := m_throwsIf (d := d - 1) (sf := va_up sf 0 0) (sa := sa) (b := 0) (z := 1) (Or.inl rfl)
    rw [if_pos rfl] at hT
    refine MM.of2 (by decide +kernel) rfl (Nat.le_of_ble_eq_true rfl) (fun L g hL X C => ?_)
    have loop : ∀ (b : Nat) (us : List Sen), us = (if bo then xs else ys) → b = (if bo then 0 else 24) → us.length ≤ 24 → SensAt sa b us → (∀ u ∈ us, SOk u) → ∀ (zs done : List Sen) (sfc : SF), us = done ++ zs → Gf (va_up sf 0 0) sfc → X 0 0 L (ov sfc sa g) 46 [some (.ref 20), some (.int (iI (b2i bo))), some (.int (iI wh)), some (.int (iI ac)), some (.int (iI cs)), some (.int (iI (done.foldl (akS wh ac cs) 0))), some (.int (iI b)), some (.int (iI ((b + done.length : Nat) : Int)))] [] := by
      intro b us hus hb hul hU oku zs
      have hb2 : b ≤ 24 := by rw [hb]; split <;> omega
      have h9c : ∀ sfc, Gf (va_up sf 0 0) sfc → sfc 9 = xs.length := fun sfc hg => by rw [hg 9 (by decide) (by decide) (by decide) (by decide) (by decide) (by decide)]; exact h9
      have h10c : ∀ sfc, Gf (va_up sf 0 0) sfc → sfc 10 = ys.length := fun sfc hg => by rw [hg 10 (by decide) (by decide) (by decide) (by decide) (by decide) (by decide)]; exact h10
      have lenO : ¬ b2i bo = 0 → xs.length = us.length := fun h => by rw [hus, b2i_t h]; rfl
      have lenN : b2i bo = 0 → ys.length = us.length := fun h => by rw [hus, b2i_f h]; rfl
      induction zs with
      | nil =>
        intro done sfc hdn hg
        rw [List.append_nil] at hdn
        have hll : us.length = done.length := by rw [hdn]
        have q9 := h9c sfc hg
        have q10 := h10c sfc hg
        refine C.iload dX9_ask_46 rfl ?_
        refine C.iload dX9_ask_48 rfl ?_
        refine C.iload_n dX9_ask_50 rfl ?_
        refine C.if_eqI (tgt := 61) dX9_ask_51 (by decide) (b2i_r3 _) (fun hc51 => ?_) (fun hc51 => ?_)
        · refine C.aload_n dX9_ask_61 rfl ?_
          refine C.mget hL gf_X9_232 dX9_ask_62 rfl ?_
          refine C.topI (b := (us.length : Int)) (by first | (rw [← lenO hc51]; exact q9) | (rw [← lenN hc51]; exact q10)) ?_
          refine C.iaddI dX9_ask_65 ?_
          refine C.icmp_geI (tgt := 121) dX9_ask_66 (by decide) (by omega) (by omega) (fun hc66 => ?_) (fun hc66 => absurd hc66 (by omega))
          refine C.iload dX9_ask_121 rfl ?_
          refine C.retI rfl (by first | rfl | (exact (iI_bool (by first | exact Or.inl rfl | exact Or.inr rfl | assumption)).1)) dX9_ask_123 (Nat.le_refl _) (Nat.le_refl _) ⟨_, _, ?_, rfl, rfl⟩
          refine ⟨fun h => absurd (h13.symm.trans h) (by decide), fun _ => ⟨?_, hg, rfl⟩⟩
          rw [← hus, hdn]
        · refine C.aload_n dX9_ask_54 rfl ?_
          refine C.mget hL gf_X9_216 dX9_ask_55 rfl ?_
          refine C.goto (tgt := 65) dX9_ask_58 (by decide) ?_
          refine C.topI (b := (us.length : Int)) (by first | (rw [← lenO hc51]; exact q9) | (rw [← lenN hc51]; exact q10)) ?_
          refine C.iaddI dX9_ask_65 ?_
          refine C.icmp_geI (tgt := 121) dX9_ask_66 (by decide) (by omega) (by omega) (fun hc66 => ?_) (fun hc66 => absurd hc66 (by omega))
          refine C.iload dX9_ask_121 rfl ?_
          refine C.retI rfl (by first | rfl | (exact (iI_bool (by first | exact Or.inl rfl | exact Or.inr rfl | assumption)).1)) dX9_ask_123 (Nat.le_refl _) (Nat.le_refl _) ⟨_, _, ?_, rfl, rfl⟩
          refine ⟨fun h => absurd (h13.symm.trans h) (by decide), fun _ => ⟨?_, hg, rfl⟩⟩
          rw [← hus, hdn]
      | cons y zs ih =>
        intro done sfc hdn hg
        have hll : us.length = done.length + (zs.length + 1) := by rw [hdn, List.length_append, List.length_cons]
        have q9 := h9c sfc hg
        have q10 := h10c sfc hg
        have hyi : us[done.length]? = some y := by
          rw [hdn, List.getElem?_append_right (Nat.le_refl _), Nat.sub_self]
          rfl
        have hyo := oku y (List.mem_of_getElem? hyi)
        have hyA := hU _ y hyi
        have k5 := hyo.1.2.1
        have e23 : sa 23 (b + done.length) = y.1.2.1 := hyA.1.2.2.1
        have hM1 := m_hasAct (d := d - 1) (sf := sfc) (by omega) i2 hyA hyo
        have hM2 := m_counts (d := d - 1) (sf := sfc) (by omega) (by omega) i4 hyA
        have nx : ∀ sf2, Gf sfc sf2 → X 0 0 L (ov sf2 sa g) 46 [some (.ref 20), some (.int (iI (b2i bo))), some (.int (iI wh)), some (.int (iI ac)), some (.int (iI cs)), some (.int (iI (akS wh ac cs (done.foldl (akS wh ac cs) 0) y))), some (.int (iI b)), some (.int (iI ((b + done.length : Nat) + 1 : Int)))] [] := fun sf2 g2 => by
          have := ih (done ++ [y]) sf2 (by rw [hdn, List.append_assoc]; rfl) (hg.tr g2)
          rw [List.length_append, List.foldl_append] at this
          exact this
        generalize done.foldl (akS wh ac cs) 0 = acc at *
        have e24 : sa 24 (b + done.length) = y.1.2.2.1 := hyA.1.2.2.2.1
        have no : akQ wh ac cs y = false → akS wh ac cs acc y = acc := fun h => by unfold akS; rw [h]; rfl
        have yes : akQ wh ac cs y = true → akS wh ac cs acc y = orv acc y.1.2.2.1 := fun h => by unfold akS; rw [h]; rfl
        refine C.iload dX9_ask_46 rfl ?_
        refine C.iload dX9_ask_48 rfl ?_
        refine C.iload_n dX9_ask_50 rfl ?_
        refine C.if_eqI (tgt := 61) dX9_ask_51 (by decide) (b2i_r3 _) (fun hc51 => ?_) (fun hc51 => ?_)
        · refine C.aload_n dX9_ask_61 rfl ?_
          refine C.mget hL gf_X9_232 dX9_ask_62 rfl ?_
          refine C.topI (b := (us.length : Int)) (by first | (rw [← lenO hc51]; exact q9) | (rw [← lenN hc51]; exact q10)) ?_
          refine C.iaddI dX9_ask_65 ?_
          refine C.icmp_geI (tgt := 121) dX9_ask_66 (by decide) (by omega) (by omega) (fun hc66 => absurd hc66 (by omega)) (fun hc66 => ?_)
          refine C.aload_n dX9_ask_69 rfl ?_
          refine C.mget hL gf_X9_16 dX9_ask_70 rfl ?_
          refine C.iload dX9_ask_73 rfl ?_
          refine C.maldk hL dX9_ask_75 (by decide) rfl (by decide) rfl (by omega) ?_
          refine C.topI (b := y.1.2.1) e23 ?_
          refine C.iload_n dX9_ask_76 rfl ?_
          refine C.icmp_neI (tgt := 115) dX9_ask_77 (by decide) (by omega) (by omega) (fun hc77 => ?_) (fun hc77 => ?_)
          · refine C.iincI dX9_ask_115 rfl (by decide) rfl ?_
            refine C.goto (tgt := 46) dX9_ask_118 (by decide) ?_
            first | (rw [← yes (akQ_t (by omega) hc87 hc98)]; exact nx _ hg2) | (refine cast ?_ (nx _ hg2); rw [no (akQ_f3 hc98)]; rfl) | (refine cast ?_ (nx _ Gf.rf); rw [no (akQ_f2 hc87)]; rfl) | (refine cast ?_ (nx _ Gf.rf); rw [no (akQ_f1 hc77)]; rfl)
          · refine C.aload_n dX9_ask_80 rfl ?_
            refine C.iload dX9_ask_81 rfl ?_
            refine C.iload_n dX9_ask_83 rfl ?_
            refine C.mcall hL (hM1) cw_X9_hasAct ml_X9_333 im_X9_hasAct sl_X9_hasAct dX9_ask_84 rfl rfl (by omega) (Nat.le_refl _) (Nat.le_refl _) (Nat.le_of_ble_eq_true rfl) rfl (fun r84 sf84 sa84 hR84 => ?_)
            obtain ⟨rfl, hs, ha⟩ := hR84
            rw [hs, ha]
            clear hs ha
            refine C.if_eqI (tgt := 115) dX9_ask_87 (by decide) (b2i_r3 _) (fun hc87 => ?_) (fun hc87 => ?_)
            · refine C.iincI dX9_ask_115 rfl (by decide) rfl ?_
              refine C.goto (tgt := 46) dX9_ask_118 (by decide) ?_
              first | (rw [← yes (akQ_t (by omega) hc87 hc98)]; exact nx _ hg2) | (refine cast ?_ (nx _ hg2); rw [no (akQ_f3 hc98)]; rfl) | (refine cast ?_ (nx _ Gf.rf); rw [no (akQ_f2 hc87)]; rfl) | (refine cast ?_ (nx _ Gf.rf); rw [no (akQ_f1 hc77)]; rfl)
            · refine C.aload_n dX9_ask_90 rfl ?_
              refine C.iload dX9_ask_91 rfl ?_
              refine C.iload dX9_ask_93 rfl ?_
              refine C.mcall hL (hM2) cw_X9_counts ml_X9_336 im_X9_counts sl_X9_counts dX9_ask_95 rfl rfl (by omega) (Nat.le_refl _) (Nat.le_refl _) (Nat.le_of_ble_eq_true rfl) rfl (fun r95 sf95 sa95 hR95 => ?_)
              obtain ⟨rfl, hg2, ha2⟩ := hR95
              rw [ha2]
              clear ha2
              refine C.if_eqI (tgt := 115) dX9_ask_98 (by decide) (b2i_r3 _) (fun hc98 => ?_) (fun hc98 => ?_)
              · refine C.iincI dX9_ask_115 rfl (by decide) rfl ?_
                refine C.goto (tgt := 46) dX9_ask_118 (by decide) ?_
                first | (rw [← yes (akQ_t (by omega) hc87 hc98)]; exact nx _ hg2) | (refine cast ?_ (nx _ hg2); rw [no (akQ_f3 hc98)]; rfl) | (refine cast ?_ (nx _ Gf.rf); rw [no (akQ_f2 hc87)]; rfl) | (refine cast ?_ (nx _ Gf.rf); rw [no (akQ_f1 hc77)]; rfl)
              · refine C.iload dX9_ask_101 rfl ?_
                refine C.ic dX9_ask_103 ?_
                refine C.aload_n dX9_ask_104 rfl ?_
                refine C.mget hL gf_X9_19 dX9_ask_105 rfl ?_
                refine C.iload dX9_ask_108 rfl ?_
                refine C.maldk hL dX9_ask_110 (by decide) rfl (by decide) rfl (by omega) ?_
                refine C.topI (b := y.1.2.2.1) e24 ?_
                refine C.ishl dX9_ask_111 ?_
                refine C.ior dX9_ask_112 ?_
                rw [orv_iI]
                refine C.istore dX9_ask_113 (by decide) rfl ?_
                refine C.iincI dX9_ask_115 rfl (by decide) rfl ?_
                refine C.goto (tgt := 46) dX9_ask_118 (by decide) ?_
                first | (rw [← yes (akQ_t (by omega) hc87 hc98)]; exact nx _ hg2) | (refine cast ?_ (nx _ hg2); rw [no (akQ_f3 hc98)]; rfl) | (refine cast ?_ (nx _ Gf.rf); rw [no (akQ_f2 hc87)]; rfl) | (refine cast ?_ (nx _ Gf.rf); rw [no (akQ_f1 hc77)]; rfl)
        · refine C.aload_n dX9_ask_54 rfl ?_
          refine C.mget hL gf_X9_216 dX9_ask_55 rfl ?_
          refine C.goto (tgt := 65) dX9_ask_58 (by decide) ?_
          refine C.topI (b := (us.length : Int)) (by first | (rw [← lenO hc51]; exact q9) | (rw [← lenN hc51]; exact q10)) ?_
          refine C.iaddI dX9_ask_65 ?_
          refine C.icmp_geI (tgt := 121) dX9_ask_66 (by decide) (by omega) (by omega) (fun hc66 => absurd hc66 (by omega)) (fun hc66 => ?_)
          refine C.aload_n dX9_ask_69 rfl ?_
          refine C.mget hL gf_X9_16 dX9_ask_70 rfl ?_
          refine C.iload dX9_ask_73 rfl ?_
          refine C.maldk hL dX9_ask_75 (by decide) rfl (by decide) rfl (by omega) ?_
          refine C.topI (b := y.1.2.1) e23 ?_
          refine C.iload_n dX9_ask_76 rfl ?_
          refine C.icmp_neI (tgt := 115) dX9_ask_77 (by decide) (by omega) (by omega) (fun hc77 => ?_) (fun hc77 => ?_)
          · refine C.iincI dX9_ask_115 rfl (by decide) rfl ?_
            refine C.goto (tgt := 46) dX9_ask_118 (by decide) ?_
            first | (rw [← yes (akQ_t (by omega) hc87 hc98)]; exact nx _ hg2) | (refine cast ?_ (nx _ hg2); rw [no (akQ_f3 hc98)]; rfl) | (refine cast ?_ (nx _ Gf.rf); rw [no (akQ_f2 hc87)]; rfl) | (refine cast ?_ (nx _ Gf.rf); rw [no (akQ_f1 hc77)]; rfl)
          · refine C.aload_n dX9_ask_80 rfl ?_
            refine C.iload dX9_ask_81 rfl ?_
            refine C.iload_n dX9_ask_83 rfl ?_
            refine C.mcall hL (hM1) cw_X9_hasAct ml_X9_333 im_X9_hasAct sl_X9_hasAct dX9_ask_84 rfl rfl (by omega) (Nat.le_refl _) (Nat.le_refl _) (Nat.le_of_ble_eq_true rfl) rfl (fun r84 sf84 sa84 hR84 => ?_)
            obtain ⟨rfl, hs, ha⟩ := hR84
            rw [hs, ha]
            clear hs ha
            refine C.if_eqI (tgt := 115) dX9_ask_87 (by decide) (b2i_r3 _) (fun hc87 => ?_) (fun hc87 => ?_)
            · refine C.iincI dX9_ask_115 rfl (by decide) rfl ?_
              refine C.goto (tgt := 46) dX9_ask_118 (by decide) ?_
              first | (rw [← yes (akQ_t (by omega) hc87 hc98)]; exact nx _ hg2) | (refine cast ?_ (nx _ hg2); rw [no (akQ_f3 hc98)]; rfl) | (refine cast ?_ (nx _ Gf.rf); rw [no (akQ_f2 hc87)]; rfl) | (refine cast ?_ (nx _ Gf.rf); rw [no (akQ_f1 hc77)]; rfl)
            · refine C.aload_n dX9_ask_90 rfl ?_
              refine C.iload dX9_ask_91 rfl ?_
              refine C.iload dX9_ask_93 rfl ?_
              refine C.mcall hL (hM2) cw_X9_counts ml_X9_336 im_X9_counts sl_X9_counts dX9_ask_95 rfl rfl (by omega) (Nat.le_refl _) (Nat.le_refl _) (Nat.le_of_ble_eq_true rfl) rfl (fun r95 sf95 sa95 hR95 => ?_)
              obtain ⟨rfl, hg2, ha2⟩ := hR95
              rw [ha2]
              clear ha2
              refine C.if_eqI (tgt := 115) dX9_ask_98 (by decide) (b2i_r3 _) (fun hc98 => ?_) (fun hc98 => ?_)
              · refine C.iincI dX9_ask_115 rfl (by decide) rfl ?_
                refine C.goto (tgt := 46) dX9_ask_118 (by decide) ?_
                first | (rw [← yes (akQ_t (by omega) hc87 hc98)]; exact nx _ hg2) | (refine cast ?_ (nx _ hg2); rw [no (akQ_f3 hc98)]; rfl) | (refine cast ?_ (nx _ Gf.rf); rw [no (akQ_f2 hc87)]; rfl) | (refine cast ?_ (nx _ Gf.rf); rw [no (akQ_f1 hc77)]; rfl)
              · refine C.iload dX9_ask_101 rfl ?_
                refine C.ic dX9_ask_103 ?_
                refine C.aload_n dX9_ask_104 rfl ?_
                refine C.mget hL gf_X9_19 dX9_ask_105 rfl ?_
                refine C.iload dX9_ask_108 rfl ?_
                refine C.maldk hL dX9_ask_110 (by decide) rfl (by decide) rfl (by omega) ?_
                refine C.topI (b := y.1.2.2.1) e24 ?_
                refine C.ishl dX9_ask_111 ?_
                refine C.ior dX9_ask_112 ?_
                rw [orv_iI]
                refine C.istore dX9_ask_113 (by decide) rfl ?_
                refine C.iincI dX9_ask_115 rfl (by decide) rfl ?_
                refine C.goto (tgt := 46) dX9_ask_118 (by decide) ?_
                first | (rw [← yes (akQ_t (by omega) hc87 hc98)]; exact nx _ hg2) | (refine cast ?_ (nx _ hg2); rw [no (akQ_f3 hc98)]; rfl) | (refine cast ?_ (nx _ Gf.rf); rw [no (akQ_f2 hc87)]; rfl) | (refine cast ?_ (nx _ Gf.rf); rw [no (akQ_f1 hc77)]; rfl)
    cases bo with
    | true =>
      have := loop 0 xs rfl rfl (by omega) hx okx xs [] (va_up sf 0 0) rfl Gf.rf
      refine C.aload_n dX9_ask_0 rfl ?_
      refine C.ic dX9_ask_1 ?_
      refine C.mput hL pf_X9_59 dX9_ask_2 (by decide) rfl ?_
      refine C.aload_n dX9_ask_5 rfl ?_
      refine C.aload_n dX9_ask_6 rfl ?_
      refine C.mget hL gf_X9_219 dX9_ask_7 rfl ?_
      refine C.topI (b := 1) h13 ?_
      refine C.if_neI (tgt := 17) dX9_ask_10 (by decide) (by omega) (fun hc10 => ?_) (fun hc10 => absurd hc10 (by decide))
      refine C.ic dX9_ask_17 ?_
      refine C.ic dX9_ask_18 ?_
      refine C.mcall hL (hT) cw_X9_throwsIf ml_X9_209 im_X9_throwsIf sl_X9_throwsIf dX9_ask_19 rfl rfl (by omega) (Nat.le_refl _) (Nat.le_refl _) (Nat.le_of_ble_eq_true rfl) rfl (fun r19 sf19 sa19 hR19 => ?_)
      obtain ⟨rfl, hs, ha⟩ := hR19
      rw [hs, ha]
      clear hs ha
      refine C.if_eqI (tgt := 27) dX9_ask_22 (by decide) (by decide) (fun hc22 => ?_) (fun hc22 => absurd hc22 (by decide))
      refine C.ic dX9_ask_27 ?_
      refine C.istore dX9_ask_28 (by decide) rfl ?_
      refine C.iload_n dX9_ask_30 rfl ?_
      refine C.if_eqI (tgt := 38) dX9_ask_31 (by decide) (by decide) (fun hc31 => absurd hc31 (by decide)) (fun hc31 => ?_)
      refine C.ic dX9_ask_34 ?_
      refine C.goto (tgt := 40) dX9_ask_35 (by decide) ?_
      refine C.istore dX9_ask_40 (by decide) rfl ?_
      refine C.iload dX9_ask_42 rfl ?_
      refine C.istore dX9_ask_44 (by decide) rfl ?_
      exact this
    | false =>
      have := loop 24 ys rfl rfl (by omega) hy oky ys [] (va_up sf 0 0) rfl Gf.rf
      refine C.aload_n dX9_ask_0 rfl ?_
      refine C.ic dX9_ask_1 ?_
      refine C.mput hL pf_X9_59 dX9_ask_2 (by decide) rfl ?_
      refine C.aload_n dX9_ask_5 rfl ?_
      refine C.aload_n dX9_ask_6 rfl ?_
      refine C.mget hL gf_X9_219 dX9_ask_7 rfl ?_
      refine C.topI (b := 1) h13 ?_
      refine C.if_neI (tgt := 17) dX9_ask_10 (by decide) (by omega) (fun hc10 => ?_) (fun hc10 => absurd hc10 (by decide))
      refine C.ic dX9_ask_17 ?_
      refine C.ic dX9_ask_18 ?_
      refine C.mcall hL (hT) cw_X9_throwsIf ml_X9_209 im_X9_throwsIf sl_X9_throwsIf dX9_ask_19 rfl rfl (by omega) (Nat.le_refl _) (Nat.le_refl _) (Nat.le_of_ble_eq_true rfl) rfl (fun r19 sf19 sa19 hR19 => ?_)
      obtain ⟨rfl, hs, ha⟩ := hR19
      rw [hs, ha]
      clear hs ha
      refine C.if_eqI (tgt := 27) dX9_ask_22 (by decide) (by decide) (fun hc22 => ?_) (fun hc22 => absurd hc22 (by decide))
      refine C.ic dX9_ask_27 ?_
      refine C.istore dX9_ask_28 (by decide) rfl ?_
      refine C.iload_n dX9_ask_30 rfl ?_
      refine C.if_eqI (tgt := 38) dX9_ask_31 (by decide) (by decide) (fun hc31 => ?_) (fun hc31 => absurd hc31 (by decide))
      refine C.bi dX9_ask_38 (by decide) ?_
      refine C.istore dX9_ask_40 (by decide) rfl ?_
      refine C.iload dX9_ask_42 rfl ?_
      refine C.istore dX9_ask_44 (by decide) rfl ?_
      exact this
def dyQ (wh ac cs : Int) (y : Sen) : Bool := decide (y.1.2.1 = wh ∧ y.1.2.2.1 = 0 ∧ ¬ y.2.1 < 0) && (hA y ac && cnS cs y)
def dyS (wh ac cs : Int) (l : Int) (y : Sen) : Int := if dyQ wh ac cs y then (if l < 0 then y.2.1 else if y.2.1 < l then y.2.1 else l) else l
theorem dyQ_f1 {wh ac cs : Int} {y : Sen} (h : ¬ (y.1.2.1 = wh ∧ y.1.2.2.1 = 0 ∧ ¬ y.2.1 < 0)) : dyQ wh ac cs y = false := by unfold dyQ; rw [decide_eq_false h]; rfl
theorem dyQ_f2 {wh ac cs : Int} {y : Sen} (h : b2i (hA y ac) = 0) : dyQ wh ac cs y = false := by unfold dyQ; rw [b2i_f h]; simp
theorem dyQ_f3 {wh ac cs : Int} {y : Sen} (h : b2i (cnS cs y) = 0) : dyQ wh ac cs y = false := by unfold dyQ; rw [b2i_f h]; simp
theorem dyQ_t {wh ac cs : Int} {y : Sen} (h1 : y.1.2.1 = wh ∧ y.1.2.2.1 = 0 ∧ ¬ y.2.1 < 0) (h2 : ¬ b2i (hA y ac) = 0) (h3 : ¬ b2i (cnS cs y) = 0) : dyQ wh ac cs y = true := by unfold dyQ; rw [decide_eq_true h1, b2i_t h2, b2i_t h3]; rfl
set_option maxRecDepth 20000 in
set_option maxHeartbeats 2000000 in
theorem m_days {d : Nat} {ys : List Sen} {wh ac cs : Int} {sf : SF} {sa : SA} (hd : 404 ≤ d) (i1 : i3 wh) (i2 : i3 ac) (i4 : i3 cs) (h13 : sf 13 = 0 ∨ sf 13 = 1) (h10 : sf 10 = ys.length) (hy : SensAt sa 24 ys) (ly : ys.length ≤ 24) (oky : ∀ x ∈ ys, SOk x) : MM yX9_days cX9_days 6 (some .int) d [.int (iI wh), .int (iI ac), .int (iI cs)] sf sa (fun r sf' sa' => (sf 13 = 0 → r = some (.int (iI 0)) ∧ sf' = va_up sf 0 1 ∧ sa' = sa) ∧ (sf 13 = 1 → r = some (.int (iI (ys.foldl (dyS wh ac cs) (-1)))) ∧ Gf (va_up sf 0 0) sf' ∧ sa' = sa)) := by
  have i1' := i1
  unfold i3 at i1'
  rcases h13 with h13 | h13
  · have hT := m_throwsIf (d := d - 1) (sf := va_up sf 0 0) (sa := sa) (b := 1) (z := 1) (Or.inr rfl)
    rw [if_neg (by decide)] at hT
    refine MM.of2 (by decide +kernel) rfl (Nat.le_of_ble_eq_true rfl) (fun L g hL X C => ?_)
    refine C.aload_n dX9_days_0 rfl ?_
    refine C.ic dX9_days_1 ?_
    refine C.mput hL pf_X9_59 dX9_days_2 (by decide) rfl ?_
    refine C.aload_n dX9_days_5 rfl ?_
    refine C.aload_n dX9_days_6 rfl ?_
    refine C.mget hL gf_X9_219 dX9_days_7 rfl ?_
    refine C.topI (b := 0) h13 ?_
    refine C.if_neI (tgt := 17) dX9_days_10 (by decide) (by omega) (fun hc10 => absurd hc10 (fun h => h rfl)) (fun hc10 => ?_)
    refine C.ic dX9_days_13 ?_
    refine C.goto (tgt := 18) dX9_days_14 (by decide) ?_
    refine C.ic dX9_days_18 ?_
    refine C.mcall hL (hT) cw_X9_throwsIf ml_X9_209 im_X9_throwsIf sl_X9_throwsIf dX9_days_19 rfl rfl (by omega) (Nat.le_refl _) (Nat.le_refl _) (Nat.le_of_ble_eq_true rfl) rfl (fun r19 sf19 sa19 hR19 => ?_)
    obtain ⟨rfl, hs, ha⟩ := hR19
    rw [hs, ha]
    clear hs ha
    refine C.if_eqI (tgt := 27) dX9_days_22 (by decide) (by decide) (fun hc22 => absurd hc22 (by decide)) (fun hc22 => ?_)
    refine C.ic dX9_days_25 ?_
    refine C.retI rfl (by first | rfl | (exact (iI_bool (by first | exact Or.inl rfl | exact Or.inr rfl | assumption)).1)) dX9_days_26 (Nat.le_refl _) (Nat.le_refl _) ⟨_, _, ?_, rfl, rfl⟩
    refine ⟨fun _ => ⟨rfl, up00, rfl⟩, fun h => absurd (h13.symm.trans h) (by decide)⟩
  · have hT := m_throwsIf (d := d - 1) (sf := va_up sf 0 0) (sa := sa) (b := 0) (z := 1) (Or.inl rfl)
    rw [if_pos rfl] at hT
    refine MM.of2 (by decide +kernel) rfl (Nat.le_of_ble_eq_true rfl) (fun L g hL X C => ?_)
    have loop : ∀ (zs done : List Sen) (sfc : SF), ys = done ++ zs → Gf (va_up sf 0 0) sfc → (-1 ≤ done.foldl (dyS wh ac cs) (-1) ∧ done.foldl (dyS wh ac cs) (-1) ≤ 365) → X 0 0 L (ov sfc sa g) 34 [some (.ref 20), some (.int (iI wh)), some (.int (iI ac)), some (.int (iI cs)), some (.int (iI (done.foldl (dyS wh ac cs) (-1)))), some (.int (iI ((24 + done.length : Nat) : Int)))] [] := by
      intro zs
      have h10c : ∀ sfc, Gf (va_up sf 0 0) sfc → sfc 10 = ys.length := fun sfc hg => by rw [hg 10 (by decide) (by decide) (by decide) (by decide) (by decide) (by decide)]; exact h10
      induction zs with
      | nil =>
        intro done sfc hdn hg hl
        rw [List.append_nil] at hdn
        have hll : ys.length = done.length := by rw [hdn]
        have q10 := h10c sfc hg
        refine C.iload dX9_days_34 rfl ?_
        refine C.bi dX9_days_36 (by decide) ?_
        refine C.aload_n dX9_days_38 rfl ?_
        refine C.mget hL gf_X9_232 dX9_days_39 rfl ?_
        refine C.topI (b := (ys.length : Int)) q10 ?_
        refine C.iaddI dX9_days_42 ?_
        refine C.icmp_geI (tgt := 135) dX9_days_43 (by decide) (by omega) (by omega) (fun hc43 => ?_) (fun hc43 => absurd hc43 (by omega))
        refine C.iload dX9_days_135 rfl ?_
        refine C.retI rfl (by first | rfl | (exact (iI_bool (by first | exact Or.inl rfl | exact Or.inr rfl | assumption)).1)) dX9_days_137 (Nat.le_refl _) (Nat.le_refl _) ⟨_, _, ?_, rfl, rfl⟩
        refine ⟨fun h => absurd (h13.symm.trans h) (by decide), fun _ => ⟨?_, hg, rfl⟩⟩
        rw [hdn]
      | cons y zs ih =>
        intro done sfc hdn hg hl
        have hll : ys.length = done.length + (zs.length + 1) := by rw [hdn, List.length_append, List.length_cons]
        have q10 := h10c sfc hg
        have hyi : ys[done.length]? = some y := by
          rw [hdn, List.getElem?_append_right (Nat.le_refl _), Nat.sub_self]
          rfl
        have hyo := oky y (List.mem_of_getElem? hyi)
        have hyA := hy _ y hyi
        have k5 := hyo.1.2.1
        have k6 := hyo.1.2.2.1
        have k9 := hyo.2
        have e23 : sa 23 (24 + done.length) = y.1.2.1 := hyA.1.2.2.1
        have e24 : sa 24 (24 + done.length) = y.1.2.2.1 := hyA.1.2.2.2.1
        have e25 : sa 25 (24 + done.length) = y.2.1 := hyA.2.1
        have hM1 := m_hasAct (d := d - 1) (sf := sfc) (by omega) i2 hyA hyo
        have hM2 := m_counts (d := d - 1) (sf := sfc) (by omega) (by omega) i4 hyA
        have hl2 : -1 ≤ dyS wh ac cs (done.foldl (dyS wh ac cs) (-1)) y ∧ dyS wh ac cs (done.foldl (dyS wh ac cs) (-1)) y ≤ 365 := by
          unfold dyS at hl ⊢
          split
          · split
            · omega
            · split <;> omega
          · exact hl
        have nx : ∀ sf2, Gf sfc sf2 → X 0 0 L (ov sf2 sa g) 34 [some (.ref 20), some (.int (iI wh)), some (.int (iI ac)), some (.int (iI cs)), some (.int (iI (dyS wh ac cs (done.foldl (dyS wh ac cs) (-1)) y))), some (.int (iI ((24 + done.length : Nat) + 1 : Int)))] [] := fun sf2 g2 => by
          have := ih (done ++ [y]) sf2 (by rw [hdn, List.append_assoc]; rfl) (hg.tr g2) (by rw [List.foldl_append]; exact hl2)
          rw [List.length_append, List.foldl_append] at this
          exact this
        generalize done.foldl (dyS wh ac cs) (-1) = acc at *
        have no : dyQ wh ac cs y = false → dyS wh ac cs acc y = acc := fun h => by unfold dyS; rw [h]; rfl
        have yes : dyQ wh ac cs y = true → dyS wh ac cs acc y = (if acc < 0 then y.2.1 else if y.2.1 < acc then y.2.1 else acc) := fun h => by unfold dyS; rw [h]; rfl
        refine C.iload dX9_days_34 rfl ?_
        refine C.bi dX9_days_36 (by decide) ?_
        refine C.aload_n dX9_days_38 rfl ?_
        refine C.mget hL gf_X9_232 dX9_days_39 rfl ?_
        refine C.topI (b := (ys.length : Int)) q10 ?_
        refine C.iaddI dX9_days_42 ?_
        refine C.icmp_geI (tgt := 135) dX9_days_43 (by decide) (by omega) (by omega) (fun hc43 => absurd hc43 (by omega)) (fun hc43 => ?_)
        refine C.aload_n dX9_days_46 rfl ?_
        refine C.mget hL gf_X9_16 dX9_days_47 rfl ?_
        refine C.iload dX9_days_50 rfl ?_
        refine C.maldk hL dX9_days_52 (by decide) rfl (by decide) rfl (by omega) ?_
        refine C.topI (b := y.1.2.1) e23 ?_
        refine C.iload_n dX9_days_53 rfl ?_
        refine C.icmp_neI (tgt := 129) dX9_days_54 (by decide) (by omega) (by omega) (fun hc54 => ?_) (fun hc54 => ?_)
        · refine C.iincI dX9_days_129 rfl (by decide) rfl ?_
          refine C.goto (tgt := 34) dX9_days_132 (by decide) ?_
          first | exact nx _ hg2 | (refine cast ?_ (nx _ hg2); rw [no (dyQ_f3 hc94)]; rfl) | (refine cast ?_ (nx _ Gf.rf); rw [no (dyQ_f2 hc84)]; rfl) | (refine cast ?_ (nx _ Gf.rf); rw [no (dyQ_f1 (fun q => by omega))]; rfl)
        · refine C.aload_n dX9_days_57 rfl ?_
          refine C.mget hL gf_X9_19 dX9_days_58 rfl ?_
          refine C.iload dX9_days_61 rfl ?_
          refine C.maldk hL dX9_days_63 (by decide) rfl (by decide) rfl (by omega) ?_
          refine C.topI (b := y.1.2.2.1) e24 ?_
          refine C.if_neI (tgt := 129) dX9_days_64 (by decide) (by omega) (fun hc64 => ?_) (fun hc64 => ?_)
          · refine C.iincI dX9_days_129 rfl (by decide) rfl ?_
            refine C.goto (tgt := 34) dX9_days_132 (by decide) ?_
            first | exact nx _ hg2 | (refine cast ?_ (nx _ hg2); rw [no (dyQ_f3 hc94)]; rfl) | (refine cast ?_ (nx _ Gf.rf); rw [no (dyQ_f2 hc84)]; rfl) | (refine cast ?_ (nx _ Gf.rf); rw [no (dyQ_f1 (fun q => by omega))]; rfl)
          · refine C.aload_n dX9_days_67 rfl ?_
            refine C.mget hL gf_X9_22 dX9_days_68 rfl ?_
            refine C.iload dX9_days_71 rfl ?_
            refine C.maldk hL dX9_days_73 (by decide) rfl (by decide) rfl (by omega) ?_
            refine C.topI (b := y.2.1) e25 ?_
            refine C.if_ltI (tgt := 129) dX9_days_74 (by decide) (by omega) (fun hc74 => ?_) (fun hc74 => ?_)
            · refine C.iincI dX9_days_129 rfl (by decide) rfl ?_
              refine C.goto (tgt := 34) dX9_days_132 (by decide) ?_
              first | exact nx _ hg2 | (refine cast ?_ (nx _ hg2); rw [no (dyQ_f3 hc94)]; rfl) | (refine cast ?_ (nx _ Gf.rf); rw [no (dyQ_f2 hc84)]; rfl) | (refine cast ?_ (nx _ Gf.rf); rw [no (dyQ_f1 (fun q => by omega))]; rfl)
            · refine C.aload_n dX9_days_77 rfl ?_
              refine C.iload dX9_days_78 rfl ?_
              refine C.iload_n dX9_days_80 rfl ?_
              refine C.mcall hL (hM1) cw_X9_hasAct ml_X9_333 im_X9_hasAct sl_X9_hasAct dX9_days_81 rfl rfl (by omega) (Nat.le_refl _) (Nat.le_refl _) (Nat.le_of_ble_eq_true rfl) rfl (fun r81 sf81 sa81 hR81 => ?_)
              obtain ⟨rfl, hs, ha⟩ := hR81
              rw [hs, ha]
              clear hs ha
              refine C.if_eqI (tgt := 129) dX9_days_84 (by decide) (b2i_r3 _) (fun hc84 => ?_) (fun hc84 => ?_)
              · refine C.iincI dX9_days_129 rfl (by decide) rfl ?_
                refine C.goto (tgt := 34) dX9_days_132 (by decide) ?_
                first | exact nx _ hg2 | (refine cast ?_ (nx _ hg2); rw [no (dyQ_f3 hc94)]; rfl) | (refine cast ?_ (nx _ Gf.rf); rw [no (dyQ_f2 hc84)]; rfl) | (refine cast ?_ (nx _ Gf.rf); rw [no (dyQ_f1 (fun q => by omega))]; rfl)
              · refine C.aload_n dX9_days_87 rfl ?_
                refine C.iload dX9_days_88 rfl ?_
                refine C.iload_n dX9_days_90 rfl ?_
                refine C.mcall hL (hM2) cw_X9_counts ml_X9_336 im_X9_counts sl_X9_counts dX9_days_91 rfl rfl (by omega) (Nat.le_refl _) (Nat.le_refl _) (Nat.le_of_ble_eq_true rfl) rfl (fun r91 sf91 sa91 hR91 => ?_)
                obtain ⟨rfl, hg2, ha2⟩ := hR91
                rw [ha2]
                clear ha2
                refine C.if_neI (tgt := 100) dX9_days_94 (by decide) (b2i_r3 _) (fun hc94 => ?_) (fun hc94 => ?_)
                · refine C.iload dX9_days_100 rfl ?_
                  refine C.if_geI (tgt := 115) dX9_days_102 (by decide) (by omega) (fun hc102 => ?_) (fun hc102 => ?_)
                  · refine C.iload dX9_days_115 rfl ?_
                    refine C.aload_n dX9_days_117 rfl ?_
                    refine C.mget hL gf_X9_22 dX9_days_118 rfl ?_
                    refine C.iload dX9_days_121 rfl ?_
                    refine C.maldk hL dX9_days_123 (by decide) rfl (by decide) rfl (by omega) ?_
                    refine C.topI (b := y.2.1) e25 ?_
                    refine C.mmin (om_wsL_law0_r47 _ (List.mem_of_getElem? (i := 19) rfl)) (by omega) (by omega) (by omega) (Nat.le_refl _) (Nat.le_refl _) (Nat.le_of_ble_eq_true rfl) dX9_days_124 ?_
                    refine C.topI (b := dyS wh ac cs acc y) (by rw [yes (dyQ_t ⟨by omega, by omega, by omega⟩ hc84 hc94)]; first | rw [if_pos (show acc < 0 by omega)] | rw [if_neg (show ¬ acc < 0 by omega)]) ?_
                    refine C.istore dX9_days_127 (by decide) rfl ?_
                    refine C.iincI dX9_days_129 rfl (by decide) rfl ?_
                    refine C.goto (tgt := 34) dX9_days_132 (by decide) ?_
                    first | exact nx _ hg2 | (refine cast ?_ (nx _ hg2); rw [no (dyQ_f3 hc94)]; rfl) | (refine cast ?_ (nx _ Gf.rf); rw [no (dyQ_f2 hc84)]; rfl) | (refine cast ?_ (nx _ Gf.rf); rw [no (dyQ_f1 (fun q => by omega))]; rfl)
                  · refine C.aload_n dX9_days_105 rfl ?_
                    refine C.mget hL gf_X9_22 dX9_days_106 rfl ?_
                    refine C.iload dX9_days_109 rfl ?_
                    refine C.maldk hL dX9_days_111 (by decide) rfl (by decide) rfl (by omega) ?_
                    refine C.topI (b := y.2.1) e25 ?_
                    refine C.goto (tgt := 127) dX9_days_112 (by decide) ?_
                    refine C.topI (b := dyS wh ac cs acc y) (by rw [yes (dyQ_t ⟨by omega, by omega, by omega⟩ hc84 hc94)]; first | rw [if_pos (show acc < 0 by omega)] | rw [if_neg (show ¬ acc < 0 by omega)]) ?_
                    refine C.istore dX9_days_127 (by decide) rfl ?_
                    refine C.iincI dX9_days_129 rfl (by decide) rfl ?_
                    refine C.goto (tgt := 34) dX9_days_132 (by decide) ?_
                    first | exact nx _ hg2 | (refine cast ?_ (nx _ hg2); rw [no (dyQ_f3 hc94)]; rfl) | (refine cast ?_ (nx _ Gf.rf); rw [no (dyQ_f2 hc84)]; rfl) | (refine cast ?_ (nx _ Gf.rf); rw [no (dyQ_f1 (fun q => by omega))]; rfl)
                · refine C.goto (tgt := 129) dX9_days_97 (by decide) ?_
                  refine C.iincI dX9_days_129 rfl (by decide) rfl ?_
                  refine C.goto (tgt := 34) dX9_days_132 (by decide) ?_
                  first | exact nx _ hg2 | (refine cast ?_ (nx _ hg2); rw [no (dyQ_f3 hc94)]; rfl) | (refine cast ?_ (nx _ Gf.rf); rw [no (dyQ_f2 hc84)]; rfl) | (refine cast ?_ (nx _ Gf.rf); rw [no (dyQ_f1 (fun q => by omega))]; rfl)
    have := loop ys [] (va_up sf 0 0) rfl Gf.rf (show -1 ≤ (-1 : Int) ∧ (-1 : Int) ≤ 365 by decide)
    refine C.aload_n dX9_days_0 rfl ?_
    refine C.ic dX9_days_1 ?_
    refine C.mput hL pf_X9_59 dX9_days_2 (by decide) rfl ?_
    refine C.aload_n dX9_days_5 rfl ?_
    refine C.aload_n dX9_days_6 rfl ?_
    refine C.mget hL gf_X9_219 dX9_days_7 rfl ?_
    refine C.topI (b := 1) h13 ?_
    refine C.if_neI (tgt := 17) dX9_days_10 (by decide) (by omega) (fun hc10 => ?_) (fun hc10 => absurd hc10 (by decide))
    refine C.ic dX9_days_17 ?_
    refine C.ic dX9_days_18 ?_
    refine C.mcall hL (hT) cw_X9_throwsIf ml_X9_209 im_X9_throwsIf sl_X9_throwsIf dX9_days_19 rfl rfl (by omega) (Nat.le_refl _) (Nat.le_refl _) (Nat.le_of_ble_eq_true rfl) rfl (fun r19 sf19 sa19 hR19 => ?_)
    obtain ⟨rfl, hs, ha⟩ := hR19
    rw [hs, ha]
    clear hs ha
    refine C.if_eqI (tgt := 27) dX9_days_22 (by decide) (by decide) (fun hc22 => ?_) (fun hc22 => absurd hc22 (by decide))
    refine C.ic dX9_days_27 ?_
    refine C.istore dX9_days_28 (by decide) rfl ?_
    refine C.bi dX9_days_30 (by decide) ?_
    refine C.istore dX9_days_32 (by decide) rfl ?_
    exact this
