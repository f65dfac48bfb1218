theorem ez_nt (t : TT) (ht : isT t) : nt (ez t) ≤ nt t ∧ (nt (ez t) = nt t → ez t = t) := by
  have key : ∀ t, isT t → (nt (ez t) ≤ nt t ∧ (nt (ez t) = nt t → ez t = t)) ∧ ∀ c, t = .not c → nt (ez c) ≤ nt c := by
    refine isT_ind (P := fun t => (nt (ez t) ≤ nt t ∧ (nt (ez t) = nt t → ez t = t)) ∧ ∀ c, t = .not c → nt (ez c) ≤ nt c) ?_ ?_ ?_ ?_
    · intro n hn; exact ⟨⟨Nat.le_refl _, fun _ => rfl⟩, fun c h => by cases h⟩
    · intro c hc ih
      refine ⟨?_, fun c' h => by cases h; exact ih.1.1⟩
      by_cases hq : ∀ c2, c ≠ .not c2
      · rw [ez_not hq]
        simp only [nt]
        exact ⟨by have := ih.1.1; omega, fun h => by rw [ih.1.2 (by omega)]⟩
      · have : ∃ c2, c = .not c2 := by
          apply Classical.byContradiction
          intro h
          exact hq (fun c2 e => h ⟨c2, e⟩)
        obtain ⟨c2, rfl⟩ := this
        have h2 := ih.2 c2 rfl
        have e : ez (.not (.not c2)) = ez c2 := rfl
        rw [e]
        simp only [nt]
        exact ⟨by omega, fun h => absurd h (by omega)⟩
    · intro a b _ _ ha hb
      simp only [ez, nt]
      have h1 := ha.1.1
      have h2 := hb.1.1
      exact ⟨⟨by omega, fun h => by rw [ha.1.2 (by omega), hb.1.2 (by omega)]⟩, fun c h => by cases h⟩
    · intro a b _ _ ha hb
      simp only [ez, nt]
      have h1 := ha.1.1
      have h2 := hb.1.1
      exact ⟨⟨by omega, fun h => by rw [ha.1.2 (by omega), hb.1.2 (by omega)]⟩, fun c h => by cases h⟩
  exact (key t ht).1
/-- what can't be eased stays as it is -/
theorem ezS_id {x : Sen} (hw : tOk x.2.2.1) (h : canE x = false) : ezS x = x := by
  obtain ⟨bd, dy, w, u⟩ := x
  unfold canE at h
  rw [Bool.or_eq_false_iff] at h
  obtain ⟨h1, h2⟩ := h
  cases u with
  | some b => exact absurd h1 (by simp [isS])
  | none =>
    cases w with
    | none => rfl
    | some a =>
      have h3 : nt (ez a) = nt a := by
        have h4 : decide (ntO (ezO (some a) none) = ntO (some a)) = true := by simpa using h2
        exact of_decide_eq_true h4
      show (bd, dy, some (ez a), none) = (bd, dy, some a, none)
      rw [(ez_nt a hw).2 h3]
theorem m_ease {d : Nat} {ys : List Sen} {z : Int} {sf : SF} {sa : SA} (hd : 813 ≤ d) (hz : i3 z) (h13 : sf 13 = 0 ∨ sf 13 = 1) (h10 : sf 10 = ys.length) (hy : SensAt sa 24 ys) (ly : ys.length ≤ 24) (oky : ∀ x ∈ ys, SOk x) (hez : ∀ x ∈ ys, (cdO (ezO x.2.2.1 x.2.2.2)).length ≤ 400) : MM yX9_ease cX9_ease 2 (some .boolean) d [.int (iI z)] sf sa (fun r sf' sa' => (rfC (sf 13) ys.length z ≠ 0 → r = some (.int (iI 0)) ∧ sf' = va_up sf 0 (rfC (sf 13) ys.length z) ∧ sa' = sa) ∧ (rfC (sf 13) ys.length z = 0 → ∀ x, ys[z.toNat]? = some x → r = some (.int (iI (b2i (canE x)))) ∧ Gf (if canE x then va_up (va_up sf 0 0) 12 (sf 12 + 1) else va_up sf 0 0) sf' ∧ SensAt sa' 24 (ys.set z.toNat (ezS x)) ∧ GbR 24 48 sa sa')) := by
  by_cases hc : rfC (sf 13) ys.length z = 0
  · have hR := m_refN (d := d - 1) (sa := sa) (by omega) hz h13 h10 ly hc
    obtain ⟨z0, z1⟩ := rfC_in hc
    have hil : z.toNat < ys.length := by omega
    have hxi : ys[z.toNat]? = some ys[z.toNat] := List.getElem?_eq_getElem hil
    generalize ys[z.toNat] = x at hxi
    have hokx := oky x (List.mem_of_getElem? hxi)
    have hM := m_eases (d := d - 1) (s := 24 + z.toNat) (sf := va_up sf 0 0) (by omega) (by omega) (hy _ x hxi) (hez x (List.mem_of_getElem? hxi))
    refine MM.of2 (by decide +kernel) rfl (Nat.le_of_ble_eq_true rfl) (fun L g hL X C => ?_)
    cases hcan : canE x with
    | false =>
      rw [hcan] at hM
      refine C.aload_n dX9_ease_0 rfl ?_
      refine C.ic dX9_ease_1 ?_
      refine C.mput hL pf_X9_59 dX9_ease_2 (by decide) rfl ?_
      refine C.aload_n dX9_ease_5 rfl ?_
      refine C.iload_n dX9_ease_6 rfl ?_
      refine C.mcall hL (hR) cw_X9_refuses ml_X9_301 im_X9_refuses sl_X9_refuses dX9_ease_7 rfl rfl (by omega) (Nat.le_refl _) (Nat.le_refl _) (Nat.le_of_ble_eq_true rfl) rfl (fun r7 sf7 sa7 hR7 => ?_)
      obtain ⟨rfl, hs, ha⟩ := hR7
      rw [hs, ha]
      clear hs ha
      refine C.if_neI (tgt := 24) dX9_ease_10 (by decide) (by decide) (fun hc10 => absurd hc10 (by decide)) (fun hc10 => ?_)
      refine C.aload_n dX9_ease_13 rfl ?_
      refine C.bi dX9_ease_14 (by decide) ?_
      refine C.iload_n dX9_ease_16 rfl ?_
      refine C.iaddI dX9_ease_17 ?_
      refine C.topI (b := ((24 + z.toNat : Nat) : Int)) (by omega) ?_
      refine C.mcall hL (hM) cw_X9_eases ml_X9_313 im_X9_eases sl_X9_eases dX9_ease_18 rfl rfl (by omega) (Nat.le_refl _) (Nat.le_refl _) (Nat.le_of_ble_eq_true rfl) rfl (fun r18 sf18 sa18 hR18 => ?_)
      obtain ⟨rfl, hs2, n1, n2⟩ := hR18
      refine C.if_neI (tgt := 26) dX9_ease_21 (by decide) (by decide) (fun hc21 => absurd hc21 (by decide)) (fun hc21 => ?_)
      refine C.ic dX9_ease_24 ?_
      refine C.retI rfl (by first | rfl | (exact (iI_bool (by first | exact Or.inl rfl | exact Or.inr rfl | assumption)).1)) dX9_ease_25 (Nat.le_refl _) (Nat.le_refl _) ⟨_, _, ?_, rfl, rfl⟩
      refine ⟨fun h => absurd hc h, fun _ y hy2 => ?_⟩
      obtain rfl : x = y := Option.some.inj (hxi.symm.trans hy2)
      rw [hcan]
      exact ⟨rfl, hs2, hy.set oky n2 n1, n2.R (by omega) (by omega)⟩
    | true =>
      rw [hcan] at hM
      refine C.aload_n dX9_ease_0 rfl ?_
      refine C.ic dX9_ease_1 ?_
      refine C.mput hL pf_X9_59 dX9_ease_2 (by decide) rfl ?_
      refine C.aload_n dX9_ease_5 rfl ?_
      refine C.iload_n dX9_ease_6 rfl ?_
      refine C.mcall hL (hR) cw_X9_refuses ml_X9_301 im_X9_refuses sl_X9_refuses dX9_ease_7 rfl rfl (by omega) (Nat.le_refl _) (Nat.le_refl _) (Nat.le_of_ble_eq_true rfl) rfl (fun r7 sf7 sa7 hR7 => ?_)
      obtain ⟨rfl, hs, ha⟩ := hR7
      rw [hs, ha]
      clear hs ha
      refine C.if_neI (tgt := 24) dX9_ease_10 (by decide) (by decide) (fun hc10 => absurd hc10 (by decide)) (fun hc10 => ?_)
      refine C.aload_n dX9_ease_13 rfl ?_
      refine C.bi dX9_ease_14 (by decide) ?_
      refine C.iload_n dX9_ease_16 rfl ?_
      refine C.iaddI dX9_ease_17 ?_
      refine C.topI (b := ((24 + z.toNat : Nat) : Int)) (by omega) ?_
      refine C.mcall hL (hM) cw_X9_eases ml_X9_313 im_X9_eases sl_X9_eases dX9_ease_18 rfl rfl (by omega) (Nat.le_refl _) (Nat.le_refl _) (Nat.le_of_ble_eq_true rfl) rfl (fun r18 sf18 sa18 hR18 => ?_)
      obtain ⟨rfl, hs2, n1, n2⟩ := hR18
      have e12 : sf18 12 = sf 12 := hs2 12 (by decide) (by decide) (by decide) (by decide) (by decide) (by decide)
      refine C.if_neI (tgt := 26) dX9_ease_21 (by decide) (by decide) (fun hc21 => ?_) (fun hc21 => absurd hc21 (by decide))
      refine C.aload_n dX9_ease_26 rfl ?_
      refine C.dup dX9_ease_27 rfl ?_
      refine C.mget hL gf_X9_226 dX9_ease_28 rfl ?_
      refine C.topI (b := sf 12) e12 ?_
      refine C.ic dX9_ease_31 ?_
      refine C.iaddI dX9_ease_32 ?_
      refine C.mput hL pf_X9_226 dX9_ease_33 (by decide) rfl ?_
      refine C.ic dX9_ease_36 ?_
      refine C.retI rfl (by first | rfl | (exact (iI_bool (by first | exact Or.inl rfl | exact Or.inr rfl | assumption)).1)) dX9_ease_37 (Nat.le_refl _) (Nat.le_refl _) ⟨_, _, ?_, rfl, rfl⟩
      refine ⟨fun h => absurd hc h, fun _ y hy2 => ?_⟩
      obtain rfl : x = y := Option.some.inj (hxi.symm.trans hy2)
      rw [hcan]
      refine ⟨rfl, fun j q1 q2 q3 q4 q5 q6 => ?_, hy.set oky n2 n1, n2.R (by omega) (by omega)⟩
      by_cases hj : j = 12
      · subst hj
        rfl
      · rw [if_pos rfl, va_up_ne _ _ hj, va_up_ne _ _ hj]
        exact hs2 j q1 q2 q3 q4 q5 q6
  · have hR := m_refY (d := d - 1) (sa := sa) (by omega) hz h13 h10 ly hc
    refine MM.of2 (by decide +kernel) rfl (Nat.le_of_ble_eq_true rfl) (fun L g hL X C => ?_)
    refine C.aload_n dX9_ease_0 rfl ?_
    refine C.ic dX9_ease_1 ?_
    refine C.mput hL pf_X9_59 dX9_ease_2 (by decide) rfl ?_
    refine C.aload_n dX9_ease_5 rfl ?_
    refine C.iload_n dX9_ease_6 rfl ?_
    refine C.mcall hL (hR) cw_X9_refuses ml_X9_301 im_X9_refuses sl_X9_refuses dX9_ease_7 rfl rfl (by omega) (Nat.le_refl _) (Nat.le_refl _) (Nat.le_of_ble_eq_true rfl) rfl (fun r7 sf7 sa7 hR7 => ?_)
    obtain ⟨rfl, hs, ha⟩ := hR7
    rw [hs, ha]
    clear hs ha
    refine C.if_neI (tgt := 24) dX9_ease_10 (by decide) (by decide) (fun hc10 => ?_) (fun hc10 => absurd hc10 (by decide))
    refine C.ic dX9_ease_24 ?_
    refine C.retI rfl (by first | rfl | (exact (iI_bool (by first | exact Or.inl rfl | exact Or.inr rfl | assumption)).1)) dX9_ease_25 (Nat.le_refl _) (Nat.le_refl _) ⟨_, _, ?_, rfl, rfl⟩
    exact ⟨fun _ => ⟨rfl, rfl, rfl⟩, fun h => absurd h hc⟩
