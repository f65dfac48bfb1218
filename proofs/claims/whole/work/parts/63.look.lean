def lkV (x : Sen) (z : Int) : Int := if z = 0 then x.1.1.length else if z = 1 then x.1.2.1 else if z = 2 then x.1.2.2.1 else if z = 3 then x.2.1 else if z = 4 then x.1.2.2.2 else if z = 5 then snW x else if z = 6 then csS x else if z = 7 then ((ntO x.2.2.1 + ntO x.2.2.2 : Nat) : Int) else b2i (isS x.2.2.2)
set_option maxRecDepth 20000 in
set_option maxHeartbeats 2000000 in
theorem m_look {d : Nat} {ys : List Sen} {z w : Int} {sf : SF} {sa : SA} (hd : 424 ≤ d) (hz : i3 z) (hw : i3 w) (h13 : sf 13 = 0 ∨ sf 13 = 1) (h10 : sf 10 = ys.length) (hy : SensAt sa 24 ys) (ly : ys.length ≤ 24) (oky : ∀ x ∈ ys, SOk x ∧ (snT false x).length + 4 ≤ 9000) : MM yX9_look cX9_look 4 (some .int) d [.int (iI z), .int (iI w)] sf sa (fun r sf' sa' => (rfC (sf 13) ys.length z ≠ 0 → r = some (.int (iI 0)) ∧ sf' = va_up sf 0 (rfC (sf 13) ys.length z) ∧ sa' = sa) ∧ (rfC (sf 13) ys.length z = 0 → ¬ (0 ≤ w ∧ w ≤ 8) → r = some (.int (iI 0)) ∧ sf' = va_up sf 0 3 ∧ sa' = sa) ∧ (rfC (sf 13) ys.length z = 0 → (0 ≤ w ∧ w ≤ 8) → ∀ x, ys[z.toNat]? = some x → r = some (.int (iI (lkV x w))) ∧ Gw (va_up sf 0 0) sf' ∧ Go sa sa')) := by
  by_cases hc : rfC (sf 13) ys.length z = 0
  · have hR := m_refN (d := d - 1) (sa := sa) (by omega) hz h13 h10 ly hc
    obtain ⟨z0, z1⟩ := rfC_in hc
    have hil : z.toNat < ys.length := by omega
    have hxi : ys[z.toNat]? = some ys[z.toNat] := List.getElem?_eq_getElem hil
    generalize ys[z.toNat] = x at hxi
    obtain ⟨hokx, hrm⟩ := oky x (List.mem_of_getElem? hxi)
    have hxA := hy _ x hxi
    have e21 : sa 21 (24 + z.toNat) = x.1.1.length := hxA.1.1
    have e23 : sa 23 (24 + z.toNat) = x.1.2.1 := hxA.1.2.2.1
    have e24 : sa 24 (24 + z.toNat) = x.1.2.2.1 := hxA.1.2.2.2.1
    have e25 : sa 25 (24 + z.toNat) = x.2.1 := hxA.2.1
    have e26 : sa 26 (24 + z.toNat) = x.1.2.2.2 := hxA.1.2.2.2.2
    have k7 := hokx.1.2.2.2.1
    have hW := m_wordsOf (d := d - 1) (s := 24 + z.toNat) (sf := va_up sf 0 0) (by omega) (by omega) hxA hokx hrm
    have hC := m_costOf (d := d - 1) (s := 24 + z.toNat) (sf := va_up sf 0 0) (by omega) (by omega) hxA hokx hrm
    have hN := m_notsOf (d := d - 1) (s := 24 + z.toNat) (sf := va_up sf 0 0) (by omega) hxA.2.2.1 hxA.2.2.2
    have hu := hxA.2.2.2
    have key : ∀ (r : Option Value) (sf' : SF) (sa' : SA), (0 ≤ w ∧ w ≤ 8) → r = some (.int (iI (lkV x w))) → Gw (va_up sf 0 0) sf' → Go sa sa' → (rfC (sf 13) ys.length z ≠ 0 → r = some (.int (iI 0)) ∧ sf' = va_up sf 0 (rfC (sf 13) ys.length z) ∧ sa' = sa) ∧ (rfC (sf 13) ys.length z = 0 → ¬ (0 ≤ w ∧ w ≤ 8) → r = some (.int (iI 0)) ∧ sf' = va_up sf 0 3 ∧ sa' = sa) ∧ (rfC (sf 13) ys.length z = 0 → (0 ≤ w ∧ w ≤ 8) → ∀ x, ys[z.toNat]? = some x → r = some (.int (iI (lkV x w))) ∧ Gw (va_up sf 0 0) sf' ∧ Go sa sa') := by
      intro r sf' sa' hw8 h1 h2 h3
      refine ⟨fun h => absurd hc h, fun _ h => absurd hw8 h, fun _ _ x' hx' => ?_⟩
      obtain rfl : x = x' := Option.some.inj (hxi.symm.trans hx')
      exact ⟨h1, h2, h3⟩
    by_cases hw8 : 0 ≤ w ∧ w ≤ 8
    · rcases (show w = 0 ∨ w = 1 ∨ w = 2 ∨ w = 3 ∨ w = 4 ∨ w = 5 ∨ w = 6 ∨ w = 7 ∨ w = 8 by omega) with rfl | rfl | rfl | rfl | rfl | rfl | rfl | rfl | rfl
      · refine MM.of2 (by decide +kernel) rfl (Nat.le_of_ble_eq_true rfl) (fun L g hL X C => ?_)
        refine C.aload_n dX9_look_0 rfl ?_
        refine C.ic dX9_look_1 ?_
        refine C.mput hL pf_X9_59 dX9_look_2 (by decide) rfl ?_
        refine C.aload_n dX9_look_5 rfl ?_
        refine C.iload_n dX9_look_6 rfl ?_
        refine C.mcall hL (hR) cw_X9_refuses ml_X9_301 im_X9_refuses sl_X9_refuses dX9_look_7 rfl rfl (by omega) (Nat.le_refl _) (Nat.le_refl _) (Nat.le_of_ble_eq_true rfl) rfl (fun r7 sf7 sa7 hR7 => ?_)
        obtain ⟨rfl, hs, ha⟩ := hR7
        rw [hs, ha]
        clear hs ha
        refine C.if_eqI (tgt := 15) dX9_look_10 (by decide) (by decide) (fun hc10 => ?_) (fun hc10 => absurd hc10 (by decide))
        refine C.bi dX9_look_15 (by decide) ?_
        refine C.iload_n dX9_look_17 rfl ?_
        refine C.iaddI dX9_look_18 ?_
        refine C.topI (b := ((24 + z.toNat : Nat) : Int)) (by omega) ?_
        refine C.istore_n dX9_look_19 (by decide) rfl ?_
        refine C.iload_n dX9_look_20 rfl ?_
        refine C.tableIn (tgt := 72) dX9_look_21 (by decide) (by decide) rfl (by decide) ?_
        refine C.aload_n dX9_look_72 rfl ?_
        refine C.mget hL gf_X9_9 dX9_look_73 rfl ?_
        refine C.iload_n dX9_look_76 rfl ?_
        refine C.maldk hL dX9_look_77 (by decide) rfl (by decide) rfl (by omega) ?_
        refine C.topI (b := (x.1.1.length : Int)) e21 ?_
        refine C.retI rfl (by first | rfl | (exact (iI_bool (by first | exact Or.inl rfl | exact Or.inr rfl | assumption)).1)) dX9_look_78 (Nat.le_refl _) (Nat.le_refl _) ⟨_, _, ?_, rfl, rfl⟩
        exact key _ _ _ (by decide) rfl Gw.rf Go.rf
      · refine MM.of2 (by decide +kernel) rfl (Nat.le_of_ble_eq_true rfl) (fun L g hL X C => ?_)
        refine C.aload_n dX9_look_0 rfl ?_
        refine C.ic dX9_look_1 ?_
        refine C.mput hL pf_X9_59 dX9_look_2 (by decide) rfl ?_
        refine C.aload_n dX9_look_5 rfl ?_
        refine C.iload_n dX9_look_6 rfl ?_
        refine C.mcall hL (hR) cw_X9_refuses ml_X9_301 im_X9_refuses sl_X9_refuses dX9_look_7 rfl rfl (by omega) (Nat.le_refl _) (Nat.le_refl _) (Nat.le_of_ble_eq_true rfl) rfl (fun r7 sf7 sa7 hR7 => ?_)
        obtain ⟨rfl, hs, ha⟩ := hR7
        rw [hs, ha]
        clear hs ha
        refine C.if_eqI (tgt := 15) dX9_look_10 (by decide) (by decide) (fun hc10 => ?_) (fun hc10 => absurd hc10 (by decide))
        refine C.bi dX9_look_15 (by decide) ?_
        refine C.iload_n dX9_look_17 rfl ?_
        refine C.iaddI dX9_look_18 ?_
        refine C.topI (b := ((24 + z.toNat : Nat) : Int)) (by omega) ?_
        refine C.istore_n dX9_look_19 (by decide) rfl ?_
        refine C.iload_n dX9_look_20 rfl ?_
        refine C.tableIn (tgt := 79) dX9_look_21 (by decide) (by decide) rfl (by decide) ?_
        refine C.aload_n dX9_look_79 rfl ?_
        refine C.mget hL gf_X9_16 dX9_look_80 rfl ?_
        refine C.iload_n dX9_look_83 rfl ?_
        refine C.maldk hL dX9_look_84 (by decide) rfl (by decide) rfl (by omega) ?_
        refine C.topI (b := x.1.2.1) e23 ?_
        refine C.retI rfl (by first | rfl | (exact (iI_bool (by first | exact Or.inl rfl | exact Or.inr rfl | assumption)).1)) dX9_look_85 (Nat.le_refl _) (Nat.le_refl _) ⟨_, _, ?_, rfl, rfl⟩
        exact key _ _ _ (by decide) rfl Gw.rf Go.rf
      · refine MM.of2 (by decide +kernel) rfl (Nat.le_of_ble_eq_true rfl) (fun L g hL X C => ?_)
        refine C.aload_n dX9_look_0 rfl ?_
        refine C.ic dX9_look_1 ?_
        refine C.mput hL pf_X9_59 dX9_look_2 (by decide) rfl ?_
        refine C.aload_n dX9_look_5 rfl ?_
        refine C.iload_n dX9_look_6 rfl ?_
        refine C.mcall hL (hR) cw_X9_refuses ml_X9_301 im_X9_refuses sl_X9_refuses dX9_look_7 rfl rfl (by omega) (Nat.le_refl _) (Nat.le_refl _) (Nat.le_of_ble_eq_true rfl) rfl (fun r7 sf7 sa7 hR7 => ?_)
        obtain ⟨rfl, hs, ha⟩ := hR7
        rw [hs, ha]
        clear hs ha
        refine C.if_eqI (tgt := 15) dX9_look_10 (by decide) (by decide) (fun hc10 => ?_) (fun hc10 => absurd hc10 (by decide))
        refine C.bi dX9_look_15 (by decide) ?_
        refine C.iload_n dX9_look_17 rfl ?_
        refine C.iaddI dX9_look_18 ?_
        refine C.topI (b := ((24 + z.toNat : Nat) : Int)) (by omega) ?_
        refine C.istore_n dX9_look_19 (by decide) rfl ?_
        refine C.iload_n dX9_look_20 rfl ?_
        refine C.tableIn (tgt := 86) dX9_look_21 (by decide) (by decide) rfl (by decide) ?_
        refine C.aload_n dX9_look_86 rfl ?_
        refine C.mget hL gf_X9_19 dX9_look_87 rfl ?_
        refine C.iload_n dX9_look_90 rfl ?_
        refine C.maldk hL dX9_look_91 (by decide) rfl (by decide) rfl (by omega) ?_
        refine C.topI (b := x.1.2.2.1) e24 ?_
        refine C.retI rfl (by first | rfl | (exact (iI_bool (by first | exact Or.inl rfl | exact Or.inr rfl | assumption)).1)) dX9_look_92 (Nat.le_refl _) (Nat.le_refl _) ⟨_, _, ?_, rfl, rfl⟩
        exact key _ _ _ (by decide) rfl Gw.rf Go.rf
      · refine MM.of2 (by decide +kernel) rfl (Nat.le_of_ble_eq_true rfl) (fun L g hL X C => ?_)
        refine C.aload_n dX9_look_0 rfl ?_
        refine C.ic dX9_look_1 ?_
        refine C.mput hL pf_X9_59 dX9_look_2 (by decide) rfl ?_
        refine C.aload_n dX9_look_5 rfl ?_
        refine C.iload_n dX9_look_6 rfl ?_
        refine C.mcall hL (hR) cw_X9_refuses ml_X9_301 im_X9_refuses sl_X9_refuses dX9_look_7 rfl rfl (by omega) (Nat.le_refl _) (Nat.le_refl _) (Nat.le_of_ble_eq_true rfl) rfl (fun r7 sf7 sa7 hR7 => ?_)
        obtain ⟨rfl, hs, ha⟩ := hR7
        rw [hs, ha]
        clear hs ha
        refine C.if_eqI (tgt := 15) dX9_look_10 (by decide) (by decide) (fun hc10 => ?_) (fun hc10 => absurd hc10 (by decide))
        refine C.bi dX9_look_15 (by decide) ?_
        refine C.iload_n dX9_look_17 rfl ?_
        refine C.iaddI dX9_look_18 ?_
        refine C.topI (b := ((24 + z.toNat : Nat) : Int)) (by omega) ?_
        refine C.istore_n dX9_look_19 (by decide) rfl ?_
        refine C.iload_n dX9_look_20 rfl ?_
        refine C.tableIn (tgt := 93) dX9_look_21 (by decide) (by decide) rfl (by decide) ?_
        refine C.aload_n dX9_look_93 rfl ?_
        refine C.mget hL gf_X9_22 dX9_look_94 rfl ?_
        refine C.iload_n dX9_look_97 rfl ?_
        refine C.maldk hL dX9_look_98 (by decide) rfl (by decide) rfl (by omega) ?_
        refine C.topI (b := x.2.1) e25 ?_
        refine C.retI rfl (by first | rfl | (exact (iI_bool (by first | exact Or.inl rfl | exact Or.inr rfl | assumption)).1)) dX9_look_99 (Nat.le_refl _) (Nat.le_refl _) ⟨_, _, ?_, rfl, rfl⟩
        exact key _ _ _ (by decide) rfl Gw.rf Go.rf
      · refine MM.of2 (by decide +kernel) rfl (Nat.le_of_ble_eq_true rfl) (fun L g hL X C => ?_)
        refine C.aload_n dX9_look_0 rfl ?_
        refine C.ic dX9_look_1 ?_
        refine C.mput hL pf_X9_59 dX9_look_2 (by decide) rfl ?_
        refine C.aload_n dX9_look_5 rfl ?_
        refine C.iload_n dX9_look_6 rfl ?_
        refine C.mcall hL (hR) cw_X9_refuses ml_X9_301 im_X9_refuses sl_X9_refuses dX9_look_7 rfl rfl (by omega) (Nat.le_refl _) (Nat.le_refl _) (Nat.le_of_ble_eq_true rfl) rfl (fun r7 sf7 sa7 hR7 => ?_)
        obtain ⟨rfl, hs, ha⟩ := hR7
        rw [hs, ha]
        clear hs ha
        refine C.if_eqI (tgt := 15) dX9_look_10 (by decide) (by decide) (fun hc10 => ?_) (fun hc10 => absurd hc10 (by decide))
        refine C.bi dX9_look_15 (by decide) ?_
        refine C.iload_n dX9_look_17 rfl ?_
        refine C.iaddI dX9_look_18 ?_
        refine C.topI (b := ((24 + z.toNat : Nat) : Int)) (by omega) ?_
        refine C.istore_n dX9_look_19 (by decide) rfl ?_
        refine C.iload_n dX9_look_20 rfl ?_
        refine C.tableIn (tgt := 100) dX9_look_21 (by decide) (by decide) rfl (by decide) ?_
        refine C.aload_n dX9_look_100 rfl ?_
        refine C.mget hL gf_X9_25 dX9_look_101 rfl ?_
        refine C.iload_n dX9_look_104 rfl ?_
        refine C.maldzk hL dX9_look_105 (by decide) rfl (by decide) rfl (by omega) ?_
        refine C.topI (b := x.1.2.2.2) e26 ?_
        refine C.if_eqI (tgt := 113) dX9_look_106 (by decide) (by omega) (fun hc106 => ?_) (fun hc106 => ?_)
        · refine C.ic dX9_look_113 ?_
          refine C.retI rfl (by first | rfl | (exact (iI_bool (by first | exact Or.inl rfl | exact Or.inr rfl | assumption)).1)) dX9_look_114 (Nat.le_refl _) (Nat.le_refl _) ⟨_, _, ?_, rfl, rfl⟩
          exact key _ _ _ (by decide) (by rw [show lkV x 4 = x.1.2.2.2 from rfl]; congr 3; omega) Gw.rf Go.rf
        · refine C.ic dX9_look_109 ?_
          refine C.goto (tgt := 114) dX9_look_110 (by decide) ?_
          refine C.retI rfl (by first | rfl | (exact (iI_bool (by first | exact Or.inl rfl | exact Or.inr rfl | assumption)).1)) dX9_look_114 (Nat.le_refl _) (Nat.le_refl _) ⟨_, _, ?_, rfl, rfl⟩
          exact key _ _ _ (by decide) (by rw [show lkV x 4 = x.1.2.2.2 from rfl]; congr 3; omega) Gw.rf Go.rf
      · refine MM.of2 (by decide +kernel) rfl (Nat.le_of_ble_eq_true rfl) (fun L g hL X C => ?_)
        refine C.aload_n dX9_look_0 rfl ?_
        refine C.ic dX9_look_1 ?_
        refine C.mput hL pf_X9_59 dX9_look_2 (by decide) rfl ?_
        refine C.aload_n dX9_look_5 rfl ?_
        refine C.iload_n dX9_look_6 rfl ?_
        refine C.mcall hL (hR) cw_X9_refuses ml_X9_301 im_X9_refuses sl_X9_refuses dX9_look_7 rfl rfl (by omega) (Nat.le_refl _) (Nat.le_refl _) (Nat.le_of_ble_eq_true rfl) rfl (fun r7 sf7 sa7 hR7 => ?_)
        obtain ⟨rfl, hs, ha⟩ := hR7
        rw [hs, ha]
        clear hs ha
        refine C.if_eqI (tgt := 15) dX9_look_10 (by decide) (by decide) (fun hc10 => ?_) (fun hc10 => absurd hc10 (by decide))
        refine C.bi dX9_look_15 (by decide) ?_
        refine C.iload_n dX9_look_17 rfl ?_
        refine C.iaddI dX9_look_18 ?_
        refine C.topI (b := ((24 + z.toNat : Nat) : Int)) (by omega) ?_
        refine C.istore_n dX9_look_19 (by decide) rfl ?_
        refine C.iload_n dX9_look_20 rfl ?_
        refine C.tableIn (tgt := 115) dX9_look_21 (by decide) (by decide) rfl (by decide) ?_
        refine C.aload_n dX9_look_115 rfl ?_
        refine C.iload_n dX9_look_116 rfl ?_
        refine C.mcall hL (hW) cw_X9_wordsOf ml_X9_280 im_X9_wordsOf sl_X9_wordsOf dX9_look_117 rfl rfl (by omega) (Nat.le_refl _) (Nat.le_refl _) (Nat.le_of_ble_eq_true rfl) rfl (fun r117 sf117 sa117 hR117 => ?_)
        obtain ⟨rfl, hg1, hg2⟩ := hR117
        refine C.retI rfl (by first | rfl | (exact (iI_bool (by first | exact Or.inl rfl | exact Or.inr rfl | assumption)).1)) dX9_look_120 (Nat.le_refl _) (Nat.le_refl _) ⟨_, _, ?_, rfl, rfl⟩
        exact key _ _ _ (by decide) rfl hg1 hg2
      · refine MM.of2 (by decide +kernel) rfl (Nat.le_of_ble_eq_true rfl) (fun L g hL X C => ?_)
        refine C.aload_n dX9_look_0 rfl ?_
        refine C.ic dX9_look_1 ?_
        refine C.mput hL pf_X9_59 dX9_look_2 (by decide) rfl ?_
        refine C.aload_n dX9_look_5 rfl ?_
        refine C.iload_n dX9_look_6 rfl ?_
        refine C.mcall hL (hR) cw_X9_refuses ml_X9_301 im_X9_refuses sl_X9_refuses dX9_look_7 rfl rfl (by omega) (Nat.le_refl _) (Nat.le_refl _) (Nat.le_of_ble_eq_true rfl) rfl (fun r7 sf7 sa7 hR7 => ?_)
        obtain ⟨rfl, hs, ha⟩ := hR7
        rw [hs, ha]
        clear hs ha
        refine C.if_eqI (tgt := 15) dX9_look_10 (by decide) (by decide) (fun hc10 => ?_) (fun hc10 => absurd hc10 (by decide))
        refine C.bi dX9_look_15 (by decide) ?_
        refine C.iload_n dX9_look_17 rfl ?_
        refine C.iaddI dX9_look_18 ?_
        refine C.topI (b := ((24 + z.toNat : Nat) : Int)) (by omega) ?_
        refine C.istore_n dX9_look_19 (by decide) rfl ?_
        refine C.iload_n dX9_look_20 rfl ?_
        refine C.tableIn (tgt := 121) dX9_look_21 (by decide) (by decide) rfl (by decide) ?_
        refine C.aload_n dX9_look_121 rfl ?_
        refine C.iload_n dX9_look_122 rfl ?_
        refine C.mcall hL (hC) cw_X9_costOf ml_X9_286 im_X9_costOf sl_X9_costOf dX9_look_123 rfl rfl (by omega) (Nat.le_refl _) (Nat.le_refl _) (Nat.le_of_ble_eq_true rfl) rfl (fun r123 sf123 sa123 hR123 => ?_)
        obtain ⟨rfl, hg1, hg2⟩ := hR123
        refine C.retI rfl (by first | rfl | (exact (iI_bool (by first | exact Or.inl rfl | exact Or.inr rfl | assumption)).1)) dX9_look_126 (Nat.le_refl _) (Nat.le_refl _) ⟨_, _, ?_, rfl, rfl⟩
        exact key _ _ _ (by decide) rfl hg1 hg2
      · refine MM.of2 (by decide +kernel) rfl (Nat.le_of_ble_eq_true rfl) (fun L g hL X C => ?_)
        refine C.aload_n dX9_look_0 rfl ?_
        refine C.ic dX9_look_1 ?_
        refine C.mput hL pf_X9_59 dX9_look_2 (by decide) rfl ?_
        refine C.aload_n dX9_look_5 rfl ?_
        refine C.iload_n dX9_look_6 rfl ?_
        refine C.mcall hL (hR) cw_X9_refuses ml_X9_301 im_X9_refuses sl_X9_refuses dX9_look_7 rfl rfl (by omega) (Nat.le_refl _) (Nat.le_refl _) (Nat.le_of_ble_eq_true rfl) rfl (fun r7 sf7 sa7 hR7 => ?_)
        obtain ⟨rfl, hs, ha⟩ := hR7
        rw [hs, ha]
        clear hs ha
        refine C.if_eqI (tgt := 15) dX9_look_10 (by decide) (by decide) (fun hc10 => ?_) (fun hc10 => absurd hc10 (by decide))
        refine C.bi dX9_look_15 (by decide) ?_
        refine C.iload_n dX9_look_17 rfl ?_
        refine C.iaddI dX9_look_18 ?_
        refine C.topI (b := ((24 + z.toNat : Nat) : Int)) (by omega) ?_
        refine C.istore_n dX9_look_19 (by decide) rfl ?_
        refine C.iload_n dX9_look_20 rfl ?_
        refine C.tableIn (tgt := 127) dX9_look_21 (by decide) (by decide) rfl (by decide) ?_
        refine C.aload_n dX9_look_127 rfl ?_
        refine C.iload_n dX9_look_128 rfl ?_
        refine C.mcall hL (hN) cw_X9_notsOf ml_X9_283 im_X9_notsOf sl_X9_notsOf dX9_look_129 rfl rfl (by omega) (Nat.le_refl _) (Nat.le_refl _) (Nat.le_of_ble_eq_true rfl) rfl (fun r129 sf129 sa129 hR129 => ?_)
        obtain ⟨rfl, hs, ha⟩ := hR129
        rw [hs, ha]
        clear hs ha
        refine C.retI rfl (by first | rfl | (exact (iI_bool (by first | exact Or.inl rfl | exact Or.inr rfl | assumption)).1)) dX9_look_132 (Nat.le_refl _) (Nat.le_refl _) ⟨_, _, ?_, rfl, rfl⟩
        exact key _ _ _ (by decide) rfl Gw.rf Go.rf
      · have hlr := hu.len
        have hl0 : sa 27 (2 * (24 + z.toNat) + 1) = (cdO x.2.2.2).length ∧ (b2i (isS x.2.2.2) = if (cdO x.2.2.2).length = 0 then 0 else 1) := by
          generalize x.2.2.2 = u at hu
          cases u with
          | none => exact ⟨hu, rfl⟩
          | some t =>
            have := cd_len t hu.2.2.1 0
            refine ⟨hu.1, ?_⟩
            rw [show cdO (some t) = cd t 0 from rfl, if_neg (show ¬ (cd t 0).length = 0 by omega)]
            rfl
        have hl4 := hu.row.2.2.1
        refine MM.of2 (by decide +kernel) rfl (Nat.le_of_ble_eq_true rfl) (fun L g hL X C => ?_)
        refine C.aload_n dX9_look_0 rfl ?_
        refine C.ic dX9_look_1 ?_
        refine C.mput hL pf_X9_59 dX9_look_2 (by decide) rfl ?_
        refine C.aload_n dX9_look_5 rfl ?_
        refine C.iload_n dX9_look_6 rfl ?_
        refine C.mcall hL (hR) cw_X9_refuses ml_X9_301 im_X9_refuses sl_X9_refuses dX9_look_7 rfl rfl (by omega) (Nat.le_refl _) (Nat.le_refl _) (Nat.le_of_ble_eq_true rfl) rfl (fun r7 sf7 sa7 hR7 => ?_)
        obtain ⟨rfl, hs, ha⟩ := hR7
        rw [hs, ha]
        clear hs ha
        refine C.if_eqI (tgt := 15) dX9_look_10 (by decide) (by decide) (fun hc10 => ?_) (fun hc10 => absurd hc10 (by decide))
        refine C.bi dX9_look_15 (by decide) ?_
        refine C.iload_n dX9_look_17 rfl ?_
        refine C.iaddI dX9_look_18 ?_
        refine C.topI (b := ((24 + z.toNat : Nat) : Int)) (by omega) ?_
        refine C.istore_n dX9_look_19 (by decide) rfl ?_
        refine C.iload_n dX9_look_20 rfl ?_
        refine C.tableIn (tgt := 133) dX9_look_21 (by decide) (by decide) rfl (by decide) ?_
        refine C.aload_n dX9_look_133 rfl ?_
        refine C.mget hL gf_X9_29 dX9_look_134 rfl ?_
        refine C.ic dX9_look_137 ?_
        refine C.iload_n dX9_look_138 rfl ?_
        refine C.imulI dX9_look_139 ?_
        refine C.ic dX9_look_140 ?_
        refine C.iaddI dX9_look_141 ?_
        refine C.maldk hL (k := 2 * (24 + z.toNat) + 1) dX9_look_142 (by decide) rfl (by decide) (by omega) (by omega) ?_
        refine C.topI (b := ((cdO x.2.2.2).length : Int)) hl0.1 ?_
        refine C.if_leI (tgt := 150) dX9_look_143 (by decide) (by omega) (fun hc143 => ?_) (fun hc143 => ?_)
        · refine C.ic dX9_look_150 ?_
          refine C.retI rfl (by first | rfl | (exact (iI_bool (by first | exact Or.inl rfl | exact Or.inr rfl | assumption)).1)) dX9_look_151 (Nat.le_refl _) (Nat.le_refl _) ⟨_, _, ?_, rfl, rfl⟩
          refine key _ _ _ (by decide) ?_ Gw.rf Go.rf
          rw [show lkV x 8 = b2i (isS x.2.2.2) from rfl, hl0.2]
          first | rw [if_pos (by omega)] | rw [if_neg (by omega)]
        · refine C.ic dX9_look_146 ?_
          refine C.goto (tgt := 151) dX9_look_147 (by decide) ?_
          refine C.retI rfl (by first | rfl | (exact (iI_bool (by first | exact Or.inl rfl | exact Or.inr rfl | assumption)).1)) dX9_look_151 (Nat.le_refl _) (Nat.le_refl _) ⟨_, _, ?_, rfl, rfl⟩
          refine key _ _ _ (by decide) ?_ Gw.rf Go.rf
          rw [show lkV x 8 = b2i (isS x.2.2.2) from rfl, hl0.2]
          first | rw [if_pos (by omega)] | rw [if_neg (by omega)]
    · refine MM.of2 (by decide +kernel) rfl (Nat.le_of_ble_eq_true rfl) (fun L g hL X C => ?_)
      refine C.aload_n dX9_look_0 rfl ?_
      refine C.ic dX9_look_1 ?_
      refine C.mput hL pf_X9_59 dX9_look_2 (by decide) rfl ?_
      refine C.aload_n dX9_look_5 rfl ?_
      refine C.iload_n dX9_look_6 rfl ?_
      refine C.mcall hL (hR) cw_X9_refuses ml_X9_301 im_X9_refuses sl_X9_refuses dX9_look_7 rfl rfl (by omega) (Nat.le_refl _) (Nat.le_refl _) (Nat.le_of_ble_eq_true rfl) rfl (fun r7 sf7 sa7 hR7 => ?_)
      obtain ⟨rfl, hs, ha⟩ := hR7
      rw [hs, ha]
      clear hs ha
      refine C.if_eqI (tgt := 15) dX9_look_10 (by decide) (by decide) (fun hc10 => ?_) (fun hc10 => absurd hc10 (by decide))
      refine C.bi dX9_look_15 (by decide) ?_
      refine C.iload_n dX9_look_17 rfl ?_
      refine C.iaddI dX9_look_18 ?_
      refine C.topI (b := ((24 + z.toNat : Nat) : Int)) (by omega) ?_
      refine C.istore_n dX9_look_19 (by decide) rfl ?_
      refine C.iload_n dX9_look_20 rfl ?_
      refine C.tableOut (tgt := 152) dX9_look_21 (by rw [iI_toInt hw]; omega) (by decide) ?_
      refine C.aload_n dX9_look_152 rfl ?_
      refine C.ic dX9_look_153 ?_
      refine C.mput hL pf_X9_59 dX9_look_154 (by decide) rfl ?_
      refine C.ic dX9_look_157 ?_
      refine C.retI rfl (by first | rfl | (exact (iI_bool (by first | exact Or.inl rfl | exact Or.inr rfl | assumption)).1)) dX9_look_158 (Nat.le_refl _) (Nat.le_refl _) ⟨_, _, ?_, rfl, rfl⟩
      exact ⟨fun h => absurd hc h, fun _ _ => ⟨rfl, up00, rfl⟩, fun _ h => absurd h hw8⟩
  · have hR := m_refY (d := d - 1) (sa := sa) (by omega) hz h13 h10 ly hc
    refine MM.of2 (by decide +kernel) rfl (Nat.le_of_ble_eq_true rfl) (fun L g hL X C => ?_)
    refine C.aload_n dX9_look_0 rfl ?_
    refine C.ic dX9_look_1 ?_
    refine C.mput hL pf_X9_59 dX9_look_2 (by decide) rfl ?_
    refine C.aload_n dX9_look_5 rfl ?_
    refine C.iload_n dX9_look_6 rfl ?_
    refine C.mcall hL (hR) cw_X9_refuses ml_X9_301 im_X9_refuses sl_X9_refuses dX9_look_7 rfl rfl (by omega) (Nat.le_refl _) (Nat.le_refl _) (Nat.le_of_ble_eq_true rfl) rfl (fun r7 sf7 sa7 hR7 => ?_)
    obtain ⟨rfl, hs, ha⟩ := hR7
    rw [hs, ha]
    clear hs ha
    refine C.if_eqI (tgt := 15) dX9_look_10 (by decide) (by decide) (fun hc10 => absurd hc10 (by decide)) (fun hc10 => ?_)
    refine C.ic dX9_look_13 ?_
    refine C.retI rfl (by first | rfl | (exact (iI_bool (by first | exact Or.inl rfl | exact Or.inr rfl | assumption)).1)) dX9_look_14 (Nat.le_refl _) (Nat.le_refl _) ⟨_, _, ?_, rfl, rfl⟩
    exact ⟨fun _ => ⟨rfl, rfl, rfl⟩, fun h => absurd h hc, fun h => absurd h hc⟩
