theorem isT_ez (t : TT) (ht : isT t) : isT (ez t) := by
  have key : ∀ t, isT t → isT (ez t) ∧ ∀ c, t = .not c → isT (ez c) := by
    refine isT_ind (P := fun t => isT (ez t) ∧ ∀ c, t = .not c → isT (ez c)) ?_ ?_ ?_ ?_
    · intro n hn; exact ⟨hn, fun c h => by cases h⟩
    · intro c hc ih
      refine ⟨?_, fun c' h => by cases h; exact ih.1⟩
      by_cases hq : ∀ c2, c ≠ .not c2
      · rw [ez_not hq]; exact ih.1
      · have : ∃ c2, c = .not c2 := by
          apply Classical.byContradiction
          intro h
          exact hq (fun c2 e => h ⟨c2, e⟩)
        obtain ⟨c2, rfl⟩ := this
        exact ih.2 c2 rfl
    · intro a b _ _ ha hb; exact ⟨⟨ha.1, hb.1⟩, fun c h => by cases h⟩
    · intro a b _ _ ha hb; exact ⟨⟨ha.1, hb.1⟩, fun c h => by cases h⟩
  exact (key t ht).1
/-- the one condition that an eased sentence has -/
def ezO (w u : Option TT) : Option TT := match w, u with
  | none, none => none
  | some a, none => some (ez a)
  | none, some b => some (ez (.not b))
  | some a, some b => some (ez (.and a (.not b)))
def ezS (x : Sen) : Sen := (x.1, x.2.1, ezO x.2.2.1 x.2.2.2, none)
def canE (x : Sen) : Bool := isS x.2.2.2 || !decide (ntO (ezO x.2.2.1 x.2.2.2) = ntO x.2.2.1)
theorem cd_ez_and (a b : TT) (ha : isT a) (hb : isT b) : cd (ez (.and (fl a) (.not (fl b)))) 0 = cd (ez (.and a (.not b))) 0 := by
  have h1 := cd_ez_fl a ha 1
  have h2 := cd_ez_fl (.not b) hb 1
  show cd (.and (ez (fl a)) (ez (fl (.not b)))) 0 = cd (.and (ez a) (ez (.not b))) 0
  simp only [cd, h1.1, h1.2.1, h2.1, h2.2.1]
theorem TA.fr {sa sa' : SA} {n p lo hi : Nat} {t : TT} {fp : List Nat} (h : TA (sa 29) (sa 30) (sa 31) n p t fp) (hn : fp.Nodup) (hf : Fr sa sa' lo hi) (hk : ∀ k ∈ fp, k < lo ∨ hi ≤ k) : TA (sa' 29) (sa' 30) (sa' 31) n p t fp :=
  TA.congr n h hn (fun k hm => hf.2 29 k (hk k hm)) (fun k hm => hf.2 30 k (hk k hm)) (fun k hm _ => hf.2 31 k (hk k hm))
/-- rows other than the places' are as they were -/
def GoP (sa sa' : SA) : Prop := ∀ a, a ≠ 29 → a ≠ 30 → a ≠ 31 → sa' a = sa a
theorem GoP.rf {sa : SA} : GoP sa sa := fun _ _ _ _ => rfl
theorem GoP.tr {s1 s2 s3 : SA} (h1 : GoP s1 s2) (h2 : GoP s2 s3) : GoP s1 s3 := fun a x y z => (h2 a x y z).trans (h1 a x y z)
/-- the rows behind easing -/
def ezR (sa : SA) (s : Nat) (zs : List Int) : SA := va_up (va_up (wrS sa 28 (2 * s * 420) zs) 27 (va_up (sa 27) (2 * s) zs.length)) 27 (va_up (va_up (sa 27) (2 * s) zs.length) (2 * s + 1) 0)
theorem ezR_ne {sa : SA} {s a : Nat} {zs : List Int} (h1 : a ≠ 27) (h2 : a ≠ 28) : ezR sa s zs a = sa a := by
  unfold ezR
  rw [va_up_ne _ _ h1, va_up_ne _ _ h1, wrS_ne h2]
theorem ezR_at {sa : SA} {s : Nat} {x : Sen} {t tt : TT} (hx : SenAt sa s x) (he : ezO x.2.2.1 x.2.2.2 = some tt) (hz : cd t 0 = cd tt 0) (htt : isT tt) (hl : (cd tt 0).length ≤ 400) : SenAt (ezR sa s (cd t 0)) s (ezS x) ∧ GbS sa (ezR sa s (cd t 0)) s := by
  obtain ⟨⟨b1, b2, b3, b4, b5⟩, q1, q2, q3⟩ := hx
  have e : ∀ a, a ≠ 27 → a ≠ 28 → ezR sa s (cd t 0) a = sa a := fun a h1 h2 => ezR_ne h1 h2
  have e27 : ezR sa s (cd t 0) 27 = va_up (va_up (sa 27) (2 * s) (cd t 0).length) (2 * s + 1) 0 := by unfold ezR; rw [va_up_self]
  have e28 : ezR sa s (cd t 0) 28 = wrS sa 28 (2 * s * 420) (cd t 0) 28 := by unfold ezR; rw [va_up_ne _ _ (by decide), va_up_ne _ _ (by decide)]
  refine ⟨⟨⟨by rw [e 21 (by decide) (by decide)]; exact b1, fun k hk => by rw [e 22 (by decide) (by decide)]; exact b2 k hk, by rw [e 23 (by decide) (by decide)]; exact b3, by rw [e 24 (by decide) (by decide)]; exact b4, by rw [e 26 (by decide) (by decide)]; exact b5⟩, by rw [e 25 (by decide) (by decide)]; exact q1, ?_, ?_⟩, fun a j x1 x2 x3 x4 x5 x6 x7 => ?_⟩
  · show RowAt _ _ (ezO x.2.2.1 x.2.2.2)
    rw [he, hz] at *
    refine ⟨?_, fun j hj => ?_, htt, hl⟩
    · rw [e27, va_up_ne _ _ (by omega), va_up_self]
    · rw [e28]
      unfold wrS
      rw [if_pos ⟨rfl, by omega, by omega⟩, Nat.add_sub_cancel_left]
  · show ezR sa s (cd t 0) 27 (2 * s + 1) = 0
    rw [e27, va_up_self]
  · by_cases h1 : a = 27
    · subst h1
      rw [e27, va_up_ne _ _ (fun h => x6 ⟨rfl, by omega, by omega⟩), va_up_ne _ _ (fun h => x6 ⟨rfl, by omega, by omega⟩)]
    by_cases h2 : a = 28
    · subst h2
      rw [e28]
      unfold wrS
      rw [if_neg (fun h => x7 ⟨rfl, by omega, by rw [hz] at h; omega⟩)]
    · rw [e a h1 h2]
theorem GoP.S {sa sa' : SA} {s : Nat} (h : GoP sa sa') : GbS sa sa' s := fun a j x1 x2 x3 _ _ _ _ => by rw [h a x1 x2 x3]
theorem SenAt.P {sa sa' : SA} {s : Nat} {x : Sen} (h : SenAt sa s x) (hg : GoP sa sa') : SenAt sa' s x :=
  h.keep (fun a ha => by rw [hg a (by omega) (by omega) (by omega)]) (fun k _ => by rw [hg 22 (by decide) (by decide) (by decide)]) (fun c _ => by rw [hg 27 (by decide) (by decide) (by decide)]) (fun j _ => by rw [hg 28 (by decide) (by decide) (by decide)])
theorem b2i_not_decide {p : Prop} [Decidable p] (h : ¬ p) : b2i (!decide p) = 1 := by rw [decide_eq_false h]; rfl
set_option maxRecDepth 20000 in
set_option maxHeartbeats 2000000 in
theorem m_eases {d s : Nat} {x : Sen} {sf : SF} {sa : SA} (hd : 812 ≤ d) (hs : s < 100) (hx : SenAt sa s x) (hlen : (cdO (ezO x.2.2.1 x.2.2.2)).length ≤ 400) : MM yX9_eases cX9_eases 7 (some .boolean) d [.int (iI s)] sf sa (fun r sf' sa' => r = some (.int (iI (b2i (canE x)))) ∧ Gf sf sf' ∧ SenAt sa' s (ezS x) ∧ GbS sa sa' s) := by
  have hNt := m_notsOf (d := d - 1) (sf := sf) hs hx.2.2.1 hx.2.2.2
  have hxx := hx
  obtain ⟨bd, dy, w, u⟩ := x
  have hw : RowAt sa (2 * s) w := hx.2.2.1
  have hu : RowAt sa (2 * s + 1) u := hx.2.2.2
  have nw : ntO w ≤ 400 := by
    have := hw.row
    have c1 := List.count_le_length (a := (10 : Int)) (l := cdO w)
    omega
  have nu : ntO u ≤ 400 := by
    have := hu.row
    have c1 := List.count_le_length (a := (10 : Int)) (l := cdO u)
    omega
  simp only [] at hlen hNt
  generalize hcE : canE (bd, dy, w, u) = cE
  refine MM.of2 (by decide +kernel) rfl (Nat.le_of_ble_eq_true rfl) (fun L g hL X C => ?_)
  have fin : ∀ (sfc : SF) (sac : SA) (N p : Nat) (T tt : TT) (fp : List Nat), N ≤ 403 → Gf sf sfc → GoP sa sac → TA (sac 29) (sac 30) (sac 31) N p T fp → fp.Nodup → ezO w u = some tt → cd (ez T) 0 = cd tt 0 → isT tt → ∀ v5 v6, X 0 0 L (ov sfc sac g) 132 [some (.ref 20), some (.int (iI s)), some (.int (iI ((ntO w + ntO u : Nat) : Int))), some (.int (iI (b2i (isS u)))), some (.int (iI p)), v5, v6] [] := by
    intro sfc sac N p T tt fp hN hg hp hTA hnd he hcd htt v5 v6
    rw [he] at hlen
    have hlen' : (cd tt 0).length ≤ 400 := hlen
    have hp14 := hTA.lt.1
    have hE := @m_eased N (d - 1) p T fp sfc sac (by omega) hTA hnd
    have hxc : SenAt sac s (bd, dy, w, u) := hxx.P hp
    refine C.iload dX9_eases_132 rfl ?_
    refine C.if_geI (tgt := 139) dX9_eases_134 (by decide) (by omega) (fun hc134 => ?_) (fun hc134 => absurd hc134 (by omega))
    refine C.aload_n dX9_eases_139 rfl ?_
    refine C.aload_n dX9_eases_140 rfl ?_
    refine C.iload dX9_eases_141 rfl ?_
    refine C.mcall hL (hE) cw_X9_eased ml_X9_79 im_X9_eased sl_X9_eased dX9_eases_143 rfl rfl (by omega) (Nat.le_refl _) (Nat.le_refl _) (Nat.le_of_ble_eq_true rfl) rfl (fun r143 sf143 sa143 hR143 => ?_)
    obtain ⟨hs2, p', fp', rfl, hF, hTA', hnd', hsub⟩ := hR143
    rw [hs2]
    clear hs2
    have hLa := m_laysAll (d := d - 1) (c := 2 * s) (sf := sfc) (by omega) (by omega) hTA' (by rw [hcd]; omega)
    have hpF : GoP sac sa143 := fun a _ y z => hF.1 a y z
    have hxc2 := hxc.P hpF
    obtain ⟨hfin, hfg⟩ := ezR_at hxc2 he hcd htt hlen'
    have hNt2 := m_notsOf (d := d - 1) (sf := va_up sfc 19 (cd (ez T) 0).length) hs hfin.2.2.1 hfin.2.2.2
    have hGf : Gf sf (va_up sfc 19 (cd (ez T) 0).length) := hg.up (by omega)
    have hgg := (hp.S.tr hpF.S).tr hfg
    have nt2 : ntO (some tt) ≤ 400 := by
      have := hfin.2.2.1.row
      have c1 := List.count_le_length (a := (10 : Int)) (l := cdO (ezO w u))
      simp only [ezS] at this
      rw [he] at this c1
      omega
    simp only [ezS] at hNt2
    rw [he] at hNt2
    change MM yX9_notsOf cX9_notsOf 5 (some .int) (d - 1) [.int (iI s)] (va_up sfc 19 (cd (ez T) 0).length) (ezR sa143 s (cd (ez T) 0)) (fun r sf' sa' => r = some (.int (iI ((ntO (some tt) + 0 : Nat) : Int))) ∧ sf' = _ ∧ sa' = _) at hNt2
    refine C.ic dX9_eases_146 ?_
    refine C.iload_n dX9_eases_147 rfl ?_
    refine C.imulI dX9_eases_148 ?_
    refine C.topI (b := ((2 * s : Nat) : Int)) (by omega) ?_
    refine C.mcall hL (hLa) cw_X9_laysAll ml_X9_161 im_X9_laysAll sl_X9_laysAll dX9_eases_149 rfl rfl (by omega) (Nat.le_refl _) (Nat.le_refl _) (Nat.le_of_ble_eq_true rfl) rfl (fun r149 sf149 sa149 hR149 => ?_)
    obtain ⟨rfl, hs3, ha3⟩ := hR149
    rw [hs3, ha3]
    clear hs3 ha3
    refine C.aload_n dX9_eases_152 rfl ?_
    refine C.mget hL gf_X9_29 dX9_eases_153 rfl ?_
    refine C.ic dX9_eases_156 ?_
    refine C.iload_n dX9_eases_157 rfl ?_
    refine C.imulI dX9_eases_158 ?_
    refine C.ic dX9_eases_159 ?_
    refine C.iaddI dX9_eases_160 ?_
    refine C.ic dX9_eases_161 ?_
    refine C.mastk hL (k := 2 * s + 1) (ovs_27 _ _ _) dX9_eases_162 (by decide) rfl (by decide) (by omega) (by omega) ?_
    show X 0 0 L (ov (va_up sfc 19 (cd (ez T) 0).length) (ezR sa143 s (cd (ez T) 0)) g) 163 _ _
    cases hu2 : u with
    | some b =>
      refine C.iload_n dX9_eases_163 rfl ?_
      refine C.if_neI (tgt := 176) dX9_eases_164 (by decide) (show -2147483648 ≤ (1 : Int) ∧ (1 : Int) < 2147483648 by decide) (fun _ => ?_) (fun h => absurd h (show ¬ (1 : Int) = 0 by decide))
      refine C.ic dX9_eases_176 ?_
      refine C.goto (tgt := 181) dX9_eases_177 (by decide) ?_
      refine C.retI rfl rfl dX9_eases_181 (Nat.le_refl _) (Nat.le_refl _) ⟨_, _, ?_, rfl, rfl⟩
      rw [← hcE]
      unfold canE
      rw [hu2]
      rw [hu2] at hfin
      exact ⟨rfl, hGf, hfin, hgg⟩
    | none =>
    have hcE2 : cE = !decide (ntO (some tt) = ntO w) := by
      rw [← hcE]
      unfold canE
      simp only [isS, Bool.false_or]
      rw [he, hu2]
      rfl
    refine C.iload_n dX9_eases_163 rfl ?_
    refine C.if_neI (tgt := 176) dX9_eases_164 (by decide) (by decide) (fun hc164 => absurd hc164 (by decide)) (fun hc164 => ?_)
    refine C.aload_n dX9_eases_167 rfl ?_
    refine C.iload_n dX9_eases_168 rfl ?_
    refine C.mcall hL (hNt2) cw_X9_notsOf ml_X9_283 im_X9_notsOf sl_X9_notsOf dX9_eases_169 rfl rfl (by omega) (Nat.le_refl _) (Nat.le_refl _) (Nat.le_of_ble_eq_true rfl) rfl (fun r169 sf169 sa169 hR169 => ?_)
    obtain ⟨rfl, hs, ha⟩ := hR169
    rw [hs, ha]
    clear hs ha
    refine C.iload_n dX9_eases_172 rfl ?_
    refine C.icmp_eqI (tgt := 180) dX9_eases_173 (by decide) (by omega) (by have : ntO none = 0 := rfl; omega) (fun hc173 => ?_) (fun hc173 => ?_)
    · refine C.ic dX9_eases_180 ?_
      refine C.retI rfl (by first | rfl | (exact (iI_bool (by first | exact Or.inl rfl | exact Or.inr rfl | assumption)).1)) dX9_eases_181 (Nat.le_refl _) (Nat.le_refl _) ⟨_, _, ?_, rfl, rfl⟩
      first | (rw [hcE2, decide_eq_true (by have : ntO none = 0 := rfl; omega)]; exact ⟨rfl, hGf, hfin, hgg⟩) | (rw [hcE2, decide_eq_false (by have : ntO none = 0 := rfl; omega)]; exact ⟨rfl, hGf, hfin, hgg⟩)
    · refine C.ic dX9_eases_176 ?_
      refine C.goto (tgt := 181) dX9_eases_177 (by decide) ?_
      refine C.retI rfl (by first | rfl | (exact (iI_bool (by first | exact Or.inl rfl | exact Or.inr rfl | assumption)).1)) dX9_eases_181 (Nat.le_refl _) (Nat.le_refl _) ⟨_, _, ?_, rfl, rfl⟩
      first | (rw [hcE2, decide_eq_true (by have : ntO none = 0 := rfl; omega)]; exact ⟨rfl, hGf, hfin, hgg⟩) | (rw [hcE2, decide_eq_false (by have : ntO none = 0 := rfl; omega)]; exact ⟨rfl, hGf, hfin, hgg⟩)
  cases u with
  | none =>
    have hu0 : sa 27 (2 * s + 1) = 0 := hu
    cases w with
    | none =>
      have hw0 : sa 27 (2 * s) = 0 := hw
      refine C.aload_n dX9_eases_0 rfl ?_
      refine C.iload_n dX9_eases_1 rfl ?_
      refine C.mcall hL (hNt) cw_X9_notsOf ml_X9_283 im_X9_notsOf sl_X9_notsOf dX9_eases_2 rfl rfl (by omega) (Nat.le_refl _) (Nat.le_refl _) (Nat.le_of_ble_eq_true rfl) rfl (fun r2 sf2 sa2 hR2 => ?_)
      obtain ⟨rfl, hs, ha⟩ := hR2
      rw [hs, ha]
      clear hs ha
      refine C.istore_n dX9_eases_5 (by decide) rfl ?_
      refine C.aload_n dX9_eases_6 rfl ?_
      refine C.mget hL gf_X9_29 dX9_eases_7 rfl ?_
      refine C.ic dX9_eases_10 ?_
      refine C.iload_n dX9_eases_11 rfl ?_
      refine C.imulI dX9_eases_12 ?_
      refine C.ic dX9_eases_13 ?_
      refine C.iaddI dX9_eases_14 ?_
      refine C.maldk hL (k := 2 * s + 1) dX9_eases_15 (by decide) rfl (by decide) (by omega) (by omega) ?_
      refine C.topI (b := 0) hu0 ?_
      refine C.if_leI (tgt := 23) dX9_eases_16 (by decide) (by omega) (fun hc16 => ?_) (fun hc16 => absurd hc16 (by decide))
      refine C.ic dX9_eases_23 ?_
      refine C.istore_n dX9_eases_24 (by decide) rfl ?_
      refine C.aload_n dX9_eases_25 rfl ?_
      refine C.ic dX9_eases_26 ?_
      refine C.mput hL pf_X9_62 dX9_eases_27 (by decide) rfl ?_
      refine C.ic dX9_eases_30 ?_
      refine C.istore dX9_eases_31 (by decide) rfl ?_
      refine C.iload_n dX9_eases_33 rfl ?_
      refine C.if_eqI (tgt := 112) dX9_eases_34 (by decide) (by decide) (fun hc34 => ?_) (fun hc34 => absurd hc34 (by decide))
      refine C.aload_n dX9_eases_112 rfl ?_
      refine C.mget hL gf_X9_29 dX9_eases_113 rfl ?_
      refine C.ic dX9_eases_116 ?_
      refine C.iload_n dX9_eases_117 rfl ?_
      refine C.imulI dX9_eases_118 ?_
      refine C.maldk hL (k := 2 * s) dX9_eases_119 (by decide) rfl (by decide) (by omega) (by omega) ?_
      refine C.topI (b := 0) hw0 ?_
      refine C.if_leI (tgt := 132) dX9_eases_120 (by decide) (by omega) (fun hc120 => ?_) (fun hc120 => absurd hc120 (by decide))
      refine C.iload dX9_eases_132 rfl ?_
      refine C.if_geI (tgt := 139) dX9_eases_134 (by decide) (by decide) (fun hc134 => absurd hc134 (by decide)) (fun hc134 => ?_)
      refine C.ic dX9_eases_137 ?_
      refine C.retI rfl (by first | rfl | (exact (iI_bool (by first | exact Or.inl rfl | exact Or.inr rfl | assumption)).1)) dX9_eases_138 (Nat.le_refl _) (Nat.le_refl _) ⟨_, _, ?_, rfl, rfl⟩
      rw [← hcE]
      exact ⟨rfl, Gf.rf.up (by omega), hxx, GbS.rf⟩
    | some a =>
      obtain ⟨a1, a2, a3, a4⟩ := hw.code
      have ha0 := cd_len a a3 0
      have hT := m_treeOf (N := 400) (d := d - 1) (c := 2 * s) (pl := 0) (t := a) (sf := va_up sf 17 0) (sa := sa) (by omega) (by omega) a3 (by omega) (by omega) (by omega) rfl (by omega) a2
      refine C.aload_n dX9_eases_0 rfl ?_
      refine C.iload_n dX9_eases_1 rfl ?_
      refine C.mcall hL (hNt) cw_X9_notsOf ml_X9_283 im_X9_notsOf sl_X9_notsOf dX9_eases_2 rfl rfl (by omega) (Nat.le_refl _) (Nat.le_refl _) (Nat.le_of_ble_eq_true rfl) rfl (fun r2 sf2 sa2 hR2 => ?_)
      obtain ⟨rfl, hs, ha⟩ := hR2
      rw [hs, ha]
      clear hs ha
      refine C.istore_n dX9_eases_5 (by decide) rfl ?_
      refine C.aload_n dX9_eases_6 rfl ?_
      refine C.mget hL gf_X9_29 dX9_eases_7 rfl ?_
      refine C.ic dX9_eases_10 ?_
      refine C.iload_n dX9_eases_11 rfl ?_
      refine C.imulI dX9_eases_12 ?_
      refine C.ic dX9_eases_13 ?_
      refine C.iaddI dX9_eases_14 ?_
      refine C.maldk hL (k := 2 * s + 1) dX9_eases_15 (by decide) rfl (by decide) (by omega) (by omega) ?_
      refine C.topI (b := 0) hu0 ?_
      refine C.if_leI (tgt := 23) dX9_eases_16 (by decide) (by omega) (fun hc16 => ?_) (fun hc16 => absurd hc16 (by decide))
      refine C.ic dX9_eases_23 ?_
      refine C.istore_n dX9_eases_24 (by decide) rfl ?_
      refine C.aload_n dX9_eases_25 rfl ?_
      refine C.ic dX9_eases_26 ?_
      refine C.mput hL pf_X9_62 dX9_eases_27 (by decide) rfl ?_
      refine C.ic dX9_eases_30 ?_
      refine C.istore dX9_eases_31 (by decide) rfl ?_
      refine C.iload_n dX9_eases_33 rfl ?_
      refine C.if_eqI (tgt := 112) dX9_eases_34 (by decide) (by decide) (fun hc34 => ?_) (fun hc34 => absurd hc34 (by decide))
      refine C.aload_n dX9_eases_112 rfl ?_
      refine C.mget hL gf_X9_29 dX9_eases_113 rfl ?_
      refine C.ic dX9_eases_116 ?_
      refine C.iload_n dX9_eases_117 rfl ?_
      refine C.imulI dX9_eases_118 ?_
      refine C.maldk hL (k := 2 * s) dX9_eases_119 (by decide) rfl (by decide) (by omega) (by omega) ?_
      refine C.topI (b := ((cd a 0).length : Int)) a1 ?_
      refine C.if_leI (tgt := 132) dX9_eases_120 (by decide) (by omega) (fun hc120 => absurd hc120 (by omega)) (fun hc120 => ?_)
      refine C.aload_n dX9_eases_123 rfl ?_
      refine C.ic dX9_eases_124 ?_
      refine C.iload_n dX9_eases_125 rfl ?_
      refine C.imulI dX9_eases_126 ?_
      refine C.topI (b := ((2 * s : Nat) : Int)) (by omega) ?_
      refine C.mcall hL (hT) cw_X9_treeOf ml_X9_310 im_X9_treeOf sl_X9_treeOf dX9_eases_127 rfl rfl (by omega) (Nat.le_refl _) (Nat.le_refl _) (Nat.le_of_ble_eq_true rfl) rfl (fun r127 sf127 sa127 hR127 => ?_)
      obtain ⟨rfl, hs2, hF, fp, hTA, hnd, hfp⟩ := hR127
      rw [hs2]
      clear hs2
      refine C.istore dX9_eases_130 (by decide) rfl ?_
      refine fin _ _ 400 0 (fl a) (ez a) fp (by omega) ?_ hF.1 hTA hnd rfl (cd_ez_fl a a3 0).1 (isT_ez a a3) _ _
      exact ((Gf.rf.up (by omega)).up (by omega)).up (by omega)
  | some b =>
    obtain ⟨c1, c2, c3, c4⟩ := hu.code
    have hb0 := cd_len b c3 0
    have hP1 := m_place2 (d := d - 1) (sf := va_up sf 17 0) (sa := sa) (w := 10) (pl := 0) rfl (by omega)
    have hT := m_treeOf (N := 400) (d := d - 1) (c := 2 * s + 1) (pl := 1) (t := b) (sf := va_up (va_up sf 17 0) 17 (((0 : Nat) : Int) + 1)) (sa := plS sa 0 10) (by omega) (by omega) c3 (by omega) (by omega) (by omega) rfl (by omega) (fun j hj => by rw [(plS_fr sa 0 10).1 28 (by decide) (by decide) (by decide)]; exact c2 j hj)
    refine C.aload_n dX9_eases_0 rfl ?_
    refine C.iload_n dX9_eases_1 rfl ?_
    refine C.mcall hL (hNt) cw_X9_notsOf ml_X9_283 im_X9_notsOf sl_X9_notsOf dX9_eases_2 rfl rfl (by omega) (Nat.le_refl _) (Nat.le_refl _) (Nat.le_of_ble_eq_true rfl) rfl (fun r2 sf2 sa2 hR2 => ?_)
    obtain ⟨rfl, hs, ha⟩ := hR2
    rw [hs, ha]
    clear hs ha
    refine C.istore_n dX9_eases_5 (by decide) rfl ?_
    refine C.aload_n dX9_eases_6 rfl ?_
    refine C.mget hL gf_X9_29 dX9_eases_7 rfl ?_
    refine C.ic dX9_eases_10 ?_
    refine C.iload_n dX9_eases_11 rfl ?_
    refine C.imulI dX9_eases_12 ?_
    refine C.ic dX9_eases_13 ?_
    refine C.iaddI dX9_eases_14 ?_
    refine C.maldk hL (k := 2 * s + 1) dX9_eases_15 (by decide) rfl (by decide) (by omega) (by omega) ?_
    refine C.topI (b := ((cd b 0).length : Int)) c1 ?_
    refine C.if_leI (tgt := 23) dX9_eases_16 (by decide) (by omega) (fun hc16 => absurd hc16 (by omega)) (fun hc16 => ?_)
    refine C.ic dX9_eases_19 ?_
    refine C.goto (tgt := 24) dX9_eases_20 (by decide) ?_
    refine C.istore_n dX9_eases_24 (by decide) rfl ?_
    refine C.aload_n dX9_eases_25 rfl ?_
    refine C.ic dX9_eases_26 ?_
    refine C.mput hL pf_X9_62 dX9_eases_27 (by decide) rfl ?_
    refine C.ic dX9_eases_30 ?_
    refine C.istore dX9_eases_31 (by decide) rfl ?_
    refine C.iload_n dX9_eases_33 rfl ?_
    refine C.if_eqI (tgt := 112) dX9_eases_34 (by decide) (by decide) (fun hc34 => absurd hc34 (by decide)) (fun hc34 => ?_)
    refine C.aload_n dX9_eases_37 rfl ?_
    refine C.bi dX9_eases_38 (by decide) ?_
    refine C.mcall hL (hP1) cw_X9_place ml_X9_68 im_X9_place sl_X9_place dX9_eases_40 rfl rfl (by omega) (Nat.le_refl _) (Nat.le_refl _) (Nat.le_of_ble_eq_true rfl) rfl (fun r40 sf40 sa40 hR40 => ?_)
    obtain ⟨rfl, hs, ha⟩ := hR40
    rw [hs, ha]
    clear hs ha
    refine C.istore dX9_eases_43 (by decide) rfl ?_
    refine C.aload_n dX9_eases_45 rfl ?_
    refine C.iload dX9_eases_46 rfl ?_
    refine C.aload_n dX9_eases_48 rfl ?_
    refine C.ic dX9_eases_49 ?_
    refine C.iload_n dX9_eases_50 rfl ?_
    refine C.imulI dX9_eases_51 ?_
    refine C.ic dX9_eases_52 ?_
    refine C.iaddI dX9_eases_53 ?_
    refine C.topI (b := ((2 * s + 1 : Nat) : Int)) (by omega) ?_
    refine C.mcall hL (hT) cw_X9_treeOf ml_X9_310 im_X9_treeOf sl_X9_treeOf dX9_eases_54 rfl rfl (by omega) (Nat.le_refl _) (Nat.le_refl _) (Nat.le_of_ble_eq_true rfl) rfl (fun r54 sf54 sa54 hR54 => ?_)
    obtain ⟨rfl, hs2, hF, fp, hTA, hnd, hfp⟩ := hR54
    rw [hs2]
    clear hs2
    have e30 : sa54 30 0 = -1 := by
      rw [hF.2 30 0 (by omega)]
      rfl
    have e29 : sa54 29 0 = 10 := by
      rw [hF.2 29 0 (by omega)]
      rfl
    have hP := m_puts (d := d - 1) (sf := sfT (va_up (va_up sf 17 0) 17 (((0 : Nat) : Int) + 1)) ((cd b 0).length : Int) ((1 + (cd b 0).length : Nat) : Int)) (sa := sa54) (into := 0) (one := 1) (ks := []) (by omega) (by omega) (fun k h => by cases h) (by simp) (by rw [e30]; rfl)
    have hAdd := ptS_add (s := sa54) (N := 400) (pl := 0) (qs := []) (q0 := (1, fl b, fp)) (by rw [e30]; rfl) (fun q hq => by rw [List.mem_singleton.mp hq]; exact hTA) (by
      rw [List.nodup_cons]
      refine ⟨fun h => ?_, by simpa using hnd⟩
      have := hfp 0 (by simpa using h)
      omega)
    refine C.mcall hL (hP) cw_X9_puts ml_X9_75 im_X9_puts sl_X9_puts dX9_eases_57 rfl rfl (by omega) (Nat.le_refl _) (Nat.le_refl _) (Nat.le_of_ble_eq_true rfl) rfl (fun r57 sf57 sa57 hR57 => ?_)
    obtain ⟨rfl, hs2, ha2⟩ := hR57
    rw [hs2, ha2]
    clear hs2 ha2
    have hFp : Fr sa54 (ptS sa54 [] 0 1) 0 2 := ptS_Fr (fun k h => by cases h) (by omega) (by omega)
    have hGP : GoP sa (ptS sa54 [] 0 1) := GoP.tr (GoP.tr (plS_fr sa 0 10).1 hF.1) hFp.1
    have hNot : TA (ptS sa54 [] 0 1 29) (ptS sa54 [] 0 1 30) (ptS sa54 [] 0 1 31) 401 0 (.not (fl b)) (0 :: fp) := ⟨by omega, [(1, fl b, fp)], hAdd.1, fun q hq => hAdd.2 q hq, by simp, Or.inr (Or.inl ⟨fl b, (ptS_fr 29 0 (by simp) (by simp)).trans e29, rfl, rfl⟩)⟩
    have hNd : (0 :: fp).Nodup := List.nodup_cons.mpr ⟨fun h => by have := hfp 0 h; omega, hnd⟩
    have hGf : Gf sf (sfT (va_up (va_up sf 17 0) 17 (((0 : Nat) : Int) + 1)) ((cd b 0).length : Int) ((1 + (cd b 0).length : Nat) : Int)) := (((Gf.rf.up (by omega)).up (by omega)).up (by omega)).up (by omega)
    refine C.iload dX9_eases_60 rfl ?_
    refine C.istore dX9_eases_62 (by decide) rfl ?_
    skip
    generalize ptS sa54 [] 0 1 = sb at *
    cases w with
    | none =>
      have hw0 : sb 27 (2 * s) = 0 := by rw [hGP 27 (by decide) (by decide) (by decide)]; exact hw
      refine C.aload_n dX9_eases_64 rfl ?_
      refine C.mget hL gf_X9_29 dX9_eases_65 rfl ?_
      refine C.ic dX9_eases_68 ?_
      refine C.iload_n dX9_eases_69 rfl ?_
      refine C.imulI dX9_eases_70 ?_
      refine C.maldk hL (k := 2 * s) dX9_eases_71 (by decide) rfl (by decide) (by omega) (by omega) ?_
      refine C.topI (b := 0) hw0 ?_
      refine C.if_leI (tgt := 109) dX9_eases_72 (by decide) (by omega) (fun hc72 => ?_) (fun hc72 => absurd hc72 (by decide))
      refine C.goto (tgt := 132) dX9_eases_109 (by decide) ?_
      refine fin _ _ 401 0 (.not (fl b)) (ez (.not b)) (0 :: fp) (by omega) hGf hGP hNot hNd rfl (cd_ez_fl (.not b) c3 0).1 (isT_ez (.not b) c3) _ _
    | some a =>
      obtain ⟨a1, a2, a3, a4⟩ := hw.code
      have ha0 := cd_len a a3 0
      have hw0 : sb 27 (2 * s) = (cd a 0).length := by rw [hGP 27 (by decide) (by decide) (by decide)]; exact a1
      generalize hsf : sfT (va_up (va_up sf 17 0) 17 (((0 : Nat) : Int) + 1)) ((cd b 0).length : Int) ((1 + (cd b 0).length : Nat) : Int) = sfb at hGf ⊢
      have h17 : sfb 17 = ((1 + (cd b 0).length : Nat) : Int) := by rw [← hsf]; rfl
      generalize hlb : 1 + (cd b 0).length = lb at h17 hfp
      have hP2 := m_place2 (d := d - 1) (sf := sfb) (sa := sb) (w := 1000) (pl := lb) h17 (by omega)
      have hT2 := m_treeOf (N := 400) (d := d - 1) (c := 2 * s) (pl := lb + 1) (t := a) (sf := va_up sfb 17 ((lb : Int) + 1)) (sa := plS sb lb 1000) (by omega) (by omega) a3 (by omega) (by omega) (by omega) rfl (by omega) (fun j hj => by rw [(plS_fr sb lb 1000).1 28 (by decide) (by decide) (by decide), hGP 28 (by decide) (by decide) (by decide)]; exact a2 j hj)
      refine C.aload_n dX9_eases_64 rfl ?_
      refine C.mget hL gf_X9_29 dX9_eases_65 rfl ?_
      refine C.ic dX9_eases_68 ?_
      refine C.iload_n dX9_eases_69 rfl ?_
      refine C.imulI dX9_eases_70 ?_
      refine C.maldk hL (k := 2 * s) dX9_eases_71 (by decide) rfl (by decide) (by omega) (by omega) ?_
      refine C.topI (b := ((cd a 0).length : Int)) hw0 ?_
      refine C.if_leI (tgt := 109) dX9_eases_72 (by decide) (by omega) (fun hc72 => absurd hc72 (by omega)) (fun hc72 => ?_)
      refine C.aload_n dX9_eases_75 rfl ?_
      refine C.si dX9_eases_76 (by decide) ?_
      refine C.mcall hL (hP2) cw_X9_place ml_X9_68 im_X9_place sl_X9_place dX9_eases_79 rfl rfl (by omega) (Nat.le_refl _) (Nat.le_refl _) (Nat.le_of_ble_eq_true rfl) rfl (fun r79 sf79 sa79 hR79 => ?_)
      obtain ⟨rfl, hs, ha⟩ := hR79
      rw [hs, ha]
      clear hs ha
      refine C.istore dX9_eases_82 (by decide) rfl ?_
      refine C.aload_n dX9_eases_84 rfl ?_
      refine C.iload dX9_eases_85 rfl ?_
      refine C.aload_n dX9_eases_87 rfl ?_
      refine C.ic dX9_eases_88 ?_
      refine C.iload_n dX9_eases_89 rfl ?_
      refine C.imulI dX9_eases_90 ?_
      refine C.topI (b := ((2 * s : Nat) : Int)) (by omega) ?_
      refine C.mcall hL (hT2) cw_X9_treeOf ml_X9_310 im_X9_treeOf sl_X9_treeOf dX9_eases_91 rfl rfl (by omega) (Nat.le_refl _) (Nat.le_refl _) (Nat.le_of_ble_eq_true rfl) rfl (fun r91 sf91 sa91 hR91 => ?_)
      obtain ⟨rfl, hs2, hF2, fpa, hTAa, hnda, hfpa⟩ := hR91
      rw [hs2]
      clear hs2
      generalize hsf2 : sfT (va_up sfb 17 ((lb : Int) + 1)) ((cd a 0).length : Int) ((lb + 1 + (cd a 0).length : Nat) : Int) = sfa
      have hGfa : Gf sf sfa := by rw [← hsf2]; exact ((hGf.up (by omega)).up (by omega)).up (by omega)
      have f30 : sa91 30 lb = -1 := by
        rw [hF2.2 30 lb (by omega)]
        unfold plS
        rw [va_up_ne _ _ (by decide), va_up_self, va_up_self]
      have f29 : sa91 29 lb = 1000 := by
        rw [hF2.2 29 lb (by omega)]
        unfold plS
        rw [va_up_ne _ _ (by decide), va_up_ne _ _ (by decide), va_up_self, va_up_self]
      have hNot2 : TA (sa91 29) (sa91 30) (sa91 31) 401 0 (.not (fl b)) (0 :: fp) := (hNot.fr hNd (plS_fr sb lb 1000) (fun k hk => by
        rcases List.mem_cons.mp hk with h | h
        · omega
        · have := hfp k h; omega)).fr hNd hF2 (fun k hk => by
        rcases List.mem_cons.mp hk with h | h
        · omega
        · have := hfp k h; omega)
      have hdis : ∀ k ∈ fpa, lb + 1 ≤ k := fun k hk => (hfpa k hk).1
      have hndA : (lb :: fpa).Nodup := List.nodup_cons.mpr ⟨fun h => by have := hdis lb h; omega, hnda⟩
      have hPa := m_puts (d := d - 1) (sf := sfa) (sa := sa91) (into := lb) (one := lb + 1) (ks := []) (by omega) (by omega) (fun k h => by cases h) (by simp) (by rw [f30]; rfl)
      have hAdd1 := ptS_add (s := sa91) (N := 401) (pl := lb) (qs := []) (q0 := (lb + 1, fl a, fpa)) (by rw [f30]; rfl) (fun q hq => by rw [List.mem_singleton.mp hq]; exact TA.mono 400 (by omega) hTAa) (by simpa using hndA)
      refine C.mcall hL (hPa) cw_X9_puts ml_X9_75 im_X9_puts sl_X9_puts dX9_eases_94 rfl rfl (by omega) (Nat.le_refl _) (Nat.le_refl _) (Nat.le_of_ble_eq_true rfl) rfl (fun r94 sf94 sa94 hR94 => ?_)
      obtain ⟨rfl, hs2, ha2⟩ := hR94
      rw [hs2, ha2]
      clear hs2 ha2
      have hFq : Fr sa91 (ptS sa91 [] lb (lb + 1)) lb (lb + 2) := ptS_Fr (fun k h => by cases h) (by omega) (by omega)
      have hNot3 := hNot2.fr hNd hFq (fun k hk => by
        rcases List.mem_cons.mp hk with h | h
        · omega
        · have := hfp k h; omega)
      have g29 : ptS sa91 [] lb (lb + 1) 29 lb = 1000 := (ptS_fr 29 lb (by simp) (by simp)).trans f29
      have hGP2 : GoP sb (ptS sa91 [] lb (lb + 1)) := GoP.tr (GoP.tr (plS_fr sb lb 1000).1 hF2.1) hFq.1
      have hch1 := hAdd1.1
      have hta1 := hAdd1.2
      simp only [List.map_nil, List.nil_append, List.map_cons] at hch1 hta1
      generalize ptS sa91 [] lb (lb + 1) = sc at *
      have hPb := m_puts (d := d - 1) (sf := sfa) (sa := sc) (into := lb) (one := 0) (ks := [lb + 1]) (by omega) (by omega) (fun k h => by rw [List.mem_singleton.mp h]; omega) (by simp) hch1
      have hndB : (lb :: ([(lb + 1, fl a, fpa)] ++ [(0, Jvm.Cond.not (fl b), 0 :: fp)] : List QT).flatMap (fun q => q.2.2)).Nodup := by
        simp only [List.flatMap_append, List.flatMap_cons, List.flatMap_nil, List.append_nil]
        rw [List.nodup_cons]
        refine ⟨fun h => ?_, ?_⟩
        · rcases List.mem_append.mp h with h | h
          · have := hdis lb h; omega
          · rcases List.mem_cons.mp h with h | h
            · omega
            · have := hfp lb h; omega
        · rw [List.nodup_append]
          refine ⟨hnda, hNd, fun p hp q hq e => ?_⟩
          have h1 := hdis p hp
          rcases List.mem_cons.mp hq with h | h
          · omega
          · have := hfp q h; omega
      have hAdd2 := ptS_add (s := sc) (N := 401) (pl := lb) (qs := [(lb + 1, fl a, fpa)]) (q0 := (0, Jvm.Cond.not (fl b), 0 :: fp)) hch1 (fun q hq => by
        rcases List.mem_append.mp hq with h | h
        · exact hta1 q h
        · rw [List.mem_singleton.mp h]; exact hNot3) hndB
      refine C.aload_n dX9_eases_97 rfl ?_
      refine C.iload dX9_eases_98 rfl ?_
      refine C.iload dX9_eases_100 rfl ?_
      refine C.mcall hL (hPb) cw_X9_puts ml_X9_75 im_X9_puts sl_X9_puts dX9_eases_102 rfl rfl (by omega) (Nat.le_refl _) (Nat.le_refl _) (Nat.le_of_ble_eq_true rfl) rfl (fun r102 sf102 sa102 hR102 => ?_)
      obtain ⟨rfl, hs2, ha2⟩ := hR102
      rw [hs2, ha2]
      clear hs2 ha2
      have hFr : ∀ a, a ≠ 30 → a ≠ 31 → ptS sc [lb + 1] lb 0 a = sc a := fun a y z => by
        funext j
        exact ptS_fr a j (fun e => z e.1) (fun e => y e.1)
      refine C.iload dX9_eases_105 rfl ?_
      refine C.istore dX9_eases_107 (by decide) rfl ?_
      refine C.goto (tgt := 132) dX9_eases_109 (by decide) ?_
      refine fin _ _ 402 lb (.and (fl a) (.not (fl b))) (ez (.and a (.not b))) (lb :: (fpa ++ 0 :: fp)) (by omega) hGfa (GoP.tr (GoP.tr hGP hGP2) (fun a _ y z => hFr a y z)) ⟨by omega, [(lb + 1, fl a, fpa)] ++ [(0, Jvm.Cond.not (fl b), 0 :: fp)], hAdd2.1, fun q hq => hAdd2.2 q hq, by simp, Or.inr (Or.inr (Or.inl ⟨fl a, .not (fl b), [], ?_, rfl, rfl⟩))⟩ ?_ rfl (cd_ez_and a b a3 c3) (isT_ez (.and a (.not b)) ⟨a3, c3⟩) _ _
      · rw [hFr 29 (by decide) (by decide)]
        exact g29
      · simpa using hndB
