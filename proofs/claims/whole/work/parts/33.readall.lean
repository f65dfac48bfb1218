/-- what a reading method needs: places, no more than bytes were read -/
def RD (k e p pl : Nat) (sf : SF) (sa : SA) : Prop := sf 22 = p ∧ sf 23 = e ∧ sf 26 = 12 - (k : Int) ∧ sf 17 = pl ∧ p ≤ e ∧ e ≤ 400 ∧ TB sa ∧ pl ≤ p

set_option maxRecDepth 20000 in
set_option maxHeartbeats 4000000 in
theorem m_readAllOf {k e : Nat} (hk : k ≤ 12) (hC : ∀ {d p pl : Nat} {sf : SF} {sa : SA}, 6 + 3 * k ≤ d → RD k e p pl sf sa → MM yX9_readItem cX9_readItem 3 (some .int) d [] sf sa (RP (2 * k + 1) (((itemP (sa 32) e k) p)) pl p sf sa)) {d p pl : Nat} {sf : SF} {sa : SA} (hd : 7 + 3 * k ≤ d) (h : RD k e p pl sf sa) : MM yX9_readAllOf cX9_readAllOf 3 (some .int) d [] sf sa (RP (2 * k + 1 + 1) (allOf (sa 32) e zAnd .and (itemP (sa 32) e k) p) pl p sf sa) := by
  obtain ⟨h22, h23, h26, h17, hpe, he, htb, hplp⟩ := id h
  have hgood : Good e (itemP (sa 32) e k) := itemP_good (sa 32) e k
  generalize hRES : allOf (sa 32) e zAnd .and (itemP (sa 32) e k) p = RES
  have hTX : TX 19 zAnd := ⟨⟨_, rfl, by decide⟩, by decide, by decide⟩
  refine MM.of2 (by decide +kernel) rfl (Nat.le_of_ble_eq_true rfl) (fun L g hL X C => ?_)
  have failX : ∀ (b : Nat) (p1 pl1 z : Int) (s : SA), RES = .inr b → Fr sa s pl 1400 → -2147483648 ≤ z ∧ z < 2147483648 → X 0 0 L (ov (sfR sf p1 b pl1) s g) 7 [some (.ref 20), some (.int (iI (-1))), some (.int (iI z))] [] := by
    intro b p1 pl1 z s hr hF hz
    subst hr
    refine C.iload_n dX9_readAllOf_7 rfl ?_
    refine C.if_ltI (tgt := 56) dX9_readAllOf_8 (by decide) (by omega) (fun hc8 => ?_) (fun hc8 => absurd hc8 (by omega))
    refine C.iload_n dX9_readAllOf_56 rfl ?_
    refine C.if_geI (tgt := 64) dX9_readAllOf_57 (by decide) (by omega) (fun hc57 => absurd hc57 (by omega)) (fun hc57 => ?_)
    refine C.ic dX9_readAllOf_60 ?_
    refine C.goto (tgt := 73) dX9_readAllOf_61 (by decide) ?_
    refine C.retI rfl (by first | rfl | (exact (iI_bool (by first | exact Or.inl rfl | exact Or.inr rfl | assumption)).1)) dX9_readAllOf_73 (Nat.le_refl _) (Nat.le_refl _) ⟨_, _, ?_, rfl, rfl⟩
    exact ⟨p1, pl1, rfl, rfl, hF⟩
  have main : ∀ (n : Nat), (∀ (qs : List QT) (A cur p1 x : Nat) (b : Int) (s : SA) (t : TT), e < p1 + n → p1 ≤ e → x < 1400 → 2 ≤ qs.length → (chn (s 31) (s 30 A) (qs.map (fun q => q.1)) ∧ (∀ q ∈ qs, TA (s 29) (s 30) (s 31) (2 * k + 1) q.1 q.2.1 q.2.2) ∧ (A :: qs.flatMap (fun q => q.2.2)).Nodup ∧ (∀ j ∈ A :: qs.flatMap (fun q => q.2.2), pl ≤ j ∧ j < cur) ∧ s 29 A = 1000 ∧ (∃ a as, qs.map (fun q => q.2.1) = a :: as ∧ t = as.foldl .and a) ∧ Fr sa s pl cur ∧ cur + p ≤ pl + p1) → seqF (sa 32) e zAnd .and (itemP (sa 32) e k) n t p1 = RES → X 0 0 L (ov (sfR sf p1 b cur) s g) 7 [some (.ref 20), some (.int (iI x)), some (.int (iI A))] []) ∧
      (∀ (qs : List QT) (A cur p2 x : Nat) (b : Int) (s : SA) (t : TT), e < p2 + n → p2 ≤ e → 1 ≤ qs.length → (chn (s 31) (s 30 A) (qs.map (fun q => q.1)) ∧ (∀ q ∈ qs, TA (s 29) (s 30) (s 31) (2 * k + 1) q.1 q.2.1 q.2.2) ∧ (A :: qs.flatMap (fun q => q.2.2)).Nodup ∧ (∀ j ∈ A :: qs.flatMap (fun q => q.2.2), pl ≤ j ∧ j < cur) ∧ s 29 A = 1000 ∧ (∃ a as, qs.map (fun q => q.2.1) = a :: as ∧ t = as.foldl .and a) ∧ Fr sa s pl cur ∧ cur + p ≤ pl + p2) → bnd ((itemP (sa 32) e k) p2) (fun t2 p3 => seqF (sa 32) e zAnd .and (itemP (sa 32) e k) n (.and t t2) p3) = RES → X 0 0 L (ov (sfR sf p2 b cur) s g) 38 [some (.ref 20), some (.int (iI x)), some (.int (iI A))] []) := by
    intro n
    induction n with
    | zero => exact ⟨fun qs A cur p1 x b s t h1 h2 => by omega, fun qs A cur p2 x b s t h1 h2 => by omega⟩
    | succ n ih =>
      have hHead : ∀ (qs : List QT) (A cur p1 x : Nat) (b : Int) (s : SA) (t : TT), e < p1 + (n + 1) → p1 ≤ e → x < 1400 → 2 ≤ qs.length → (chn (s 31) (s 30 A) (qs.map (fun q => q.1)) ∧ (∀ q ∈ qs, TA (s 29) (s 30) (s 31) (2 * k + 1) q.1 q.2.1 q.2.2) ∧ (A :: qs.flatMap (fun q => q.2.2)).Nodup ∧ (∀ j ∈ A :: qs.flatMap (fun q => q.2.2), pl ≤ j ∧ j < cur) ∧ s 29 A = 1000 ∧ (∃ a as, qs.map (fun q => q.2.1) = a :: as ∧ t = as.foldl .and a) ∧ Fr sa s pl cur ∧ cur + p ≤ pl + p1) → seqF (sa 32) e zAnd .and (itemP (sa 32) e k) (n + 1) t p1 = RES → X 0 0 L (ov (sfR sf p1 b cur) s g) 7 [some (.ref 20), some (.int (iI x)), some (.int (iI A))] [] := by
        intro qs A cur p1 x b s t hn1 hp1 hx hq2 hCF hres
        obtain ⟨c1, c2, c3, c4, c5, ⟨a, as, c6, c7⟩, c8, c9⟩ := id hCF
        have hAr := c4 A List.mem_cons_self
        have e32 : s 32 = sa 32 := c8.1 32 (by decide) (by decide) (by decide)
        have hb := bl_le (tb := sa 32) hp1
        have hb2 := bl_ge (sa 32) e p1
        have hP := m_passes (d := d - 1) (p := p1) (e := e) (j := 19) (zs := zAnd) (sf := sfR sf p1 b cur) (sa := s) (by omega) rfl h23 he hp1 (by intro j; rw [e32]; exact htb j) hTX
        rw [e32] at hP
        cases hps : psP (sa 32) e p1 zAnd with
        | true =>
          rw [hps] at hP
          simp only [if_true] at hP
          rw [sfP_R] at hP
          have hw := psP_len hps
          have hw2 := wend_le (tb := sa 32) hb
          have hr2 : bnd ((itemP (sa 32) e k) (wend (sa 32) e (bl (sa 32) e p1))) (fun t2 p3 => seqF (sa 32) e zAnd .and (itemP (sa 32) e k) n (.and t t2) p3) = RES := by
            rw [← hres]
            conv => rhs; unfold seqF
            rw [if_pos hps]
          simp at hw
          refine C.iload_n dX9_readAllOf_7 rfl ?_
          refine C.if_ltI (tgt := 56) dX9_readAllOf_8 (by decide) (by omega) (fun hc8 => absurd hc8 (by omega)) (fun hc8 => ?_)
          refine C.aload_n dX9_readAllOf_11 rfl ?_
          refine C.lds dX9_readAllOf_12 (j := 19) rfl ?_
          refine C.mcall hL (hP) cw_X9_passes ml_X9_143 im_X9_passes sl_X9_passes dX9_readAllOf_14 rfl rfl (by omega) (Nat.le_refl _) (Nat.le_refl _) (Nat.le_of_ble_eq_true rfl) rfl (fun r14 sf14 sa14 hR14 => ?_)
          obtain ⟨rfl, hs, ha⟩ := hR14
          rw [hs, ha]
          clear hs ha
          refine C.if_eqI (tgt := 56) dX9_readAllOf_17 (by decide) (by decide) (fun hc17 => absurd hc17 (by decide)) (fun hc17 => ?_)
          refine C.iload_n dX9_readAllOf_20 rfl ?_
          refine C.if_geI (tgt := 38) dX9_readAllOf_21 (by decide) (by omega) (fun hc21 => ?_) (fun hc21 => absurd hc21 (by omega))
          exact ih.2 qs A cur _ x _ s t (by omega) hw2 (by omega) ⟨c1, c2, c3, c4, c5, ⟨a, as, c6, c7⟩, c8, by omega⟩ hr2
        | false =>
          rw [hps] at hP
          simp only [Bool.false_eq_true, if_false] at hP
          rw [sfP_R] at hP
          have hr2 : RES = .inl (t, bl (sa 32) e p1) := by
            rw [← hres]
            unfold seqF
            rw [hps]
            rfl
          subst hr2
          refine C.iload_n dX9_readAllOf_7 rfl ?_
          refine C.if_ltI (tgt := 56) dX9_readAllOf_8 (by decide) (by omega) (fun hc8 => absurd hc8 (by omega)) (fun hc8 => ?_)
          refine C.aload_n dX9_readAllOf_11 rfl ?_
          refine C.lds dX9_readAllOf_12 (j := 19) rfl ?_
          refine C.mcall hL (hP) cw_X9_passes ml_X9_143 im_X9_passes sl_X9_passes dX9_readAllOf_14 rfl rfl (by omega) (Nat.le_refl _) (Nat.le_refl _) (Nat.le_of_ble_eq_true rfl) rfl (fun r14 sf14 sa14 hR14 => ?_)
          obtain ⟨rfl, hs, ha⟩ := hR14
          rw [hs, ha]
          clear hs ha
          refine C.if_eqI (tgt := 56) dX9_readAllOf_17 (by decide) (by decide) (fun hc17 => ?_) (fun hc17 => absurd hc17 (fun h => h rfl))
          refine C.iload_n dX9_readAllOf_56 rfl ?_
          refine C.if_geI (tgt := 64) dX9_readAllOf_57 (by decide) (by omega) (fun hc57 => ?_) (fun hc57 => absurd hc57 (by omega))
          refine C.iload_n dX9_readAllOf_64 rfl ?_
          refine C.if_geI (tgt := 72) dX9_readAllOf_65 (by decide) (by omega) (fun hc65 => ?_) (fun hc65 => absurd hc65 (by omega))
          refine C.iload_n dX9_readAllOf_72 rfl ?_
          refine C.retI rfl rfl dX9_readAllOf_73 (Nat.le_refl _) (Nat.le_refl _) ⟨_, _, ?_, rfl, rfl⟩
          refine ⟨A, cur, _, A :: qs.flatMap (fun q => q.2.2), rfl, rfl, c8, ⟨by omega, qs, c1, c2, rfl, ?_⟩, c3, c4, by omega, by omega⟩
          rw [c5, c6, c7]
          cases as with
          | nil => have := congrArg List.length c6; simp at this; omega
          | cons a2 as => exact Or.inr <| Or.inr <| Or.inl ⟨a, a2, as, rfl, rfl, rfl⟩
      refine ⟨hHead, ?_⟩
      intro qs A cur p2 x b s t hn1 hp2 hq1 hCF hres
      obtain ⟨c1, c2, c3, c4, c5, ⟨a, as, c6, c7⟩, c8, c9⟩ := id hCF
      have hAr := c4 A List.mem_cons_self
      have e32 : s 32 = sa 32 := c8.1 32 (by decide) (by decide) (by decide)
      have hM := hC (d := d - 1) (p := p2) (pl := cur) (sf := sfR sf p2 b cur) (sa := s) (by omega) ⟨rfl, h23, h26, rfl, hp2, he, by intro j; rw [e32]; exact htb j, by omega⟩
      rw [e32] at hM
      cases hf : (itemP (sa 32) e k) p2 with
      | inr b1 =>
        rw [hf] at hM hres
        refine C.aload_n dX9_readAllOf_38 rfl ?_
        refine C.mcall hL (hM) cw_X9_readItem ml_X9_146 im_X9_readItem sl_X9_readItem dX9_readAllOf_39 rfl rfl (by omega) (Nat.le_refl _) (Nat.le_refl _) (Nat.le_of_ble_eq_true rfl) rfl (fun r39 sf39 sa39 hR39 => ?_)
        obtain ⟨p9, pl9, rfl, hs, hF9⟩ := hR39
        rw [hs, sfR_R]
        clear hs
        refine C.istore_n dX9_readAllOf_42 (by decide) rfl ?_
        refine C.iload_n dX9_readAllOf_43 rfl ?_
        refine C.if_ltI (tgt := 7) dX9_readAllOf_44 (by decide) (by omega) (fun hc44 => ?_) (fun hc44 => absurd hc44 (by omega))
        exact failX b1 p9 pl9 A sa39 hres.symm (c8.tr hF9 (Nat.le_refl _) (by omega) (by omega) (Nat.le_refl _)) (by omega)
      | inl q9 =>
        rw [hf] at hM hres
        obtain ⟨g1, g2, g3, g4⟩ := hgood p2 hp2 q9.1 q9.2 hf
        refine C.aload_n dX9_readAllOf_38 rfl ?_
        refine C.mcall hL (hM) cw_X9_readItem ml_X9_146 im_X9_readItem sl_X9_readItem dX9_readAllOf_39 rfl rfl (by omega) (Nat.le_refl _) (Nat.le_refl _) (Nat.le_of_ble_eq_true rfl) rfl (fun r39 sf39 sa39 hR39 => ?_)
        obtain ⟨x9, pl9, b9, fp9, rfl, hs, hF9, hT9, hn9, hr9, hb9, hl9⟩ := hR39
        rw [hs, sfR_R]
        clear hs
        have hx9 := hT9.lt
        have hndq : ∀ q ∈ qs, q.2.2.Nodup := fun q hq => nodup_part (List.nodup_cons.mp c3).2 hq
        have hin : ∀ q ∈ qs, ∀ j ∈ q.2.2, j < cur := fun q hq j hj => (c4 j (List.mem_cons_of_mem _ (List.mem_flatMap.mpr ⟨q, hq, hj⟩))).2
        have hch2 : chn (sa39 31) (sa39 30 A) (qs.map (fun q => q.1)) := by
          rw [hF9.2 30 A (Or.inl hAr.2)]
          refine chn_congr _ _ (fun j hj => ?_) c1
          obtain ⟨q, hq, rfl⟩ := List.mem_map.mp hj
          exact hF9.2 31 _ (Or.inl (hin q hq _ (c2 q hq).lt.2))
        have hTall : ∀ q ∈ qs ++ [((x9, q9.1, fp9) : QT)], TA (sa39 29) (sa39 30) (sa39 31) (2 * k + 1) q.1 q.2.1 q.2.2 := fun q hq => by
          rcases List.mem_append.mp hq with h | h
          · exact TA.congr _ (c2 q h) (hndq q h) (fun j hj => hF9.2 29 j (Or.inl (hin q h j hj))) (fun j hj => hF9.2 30 j (Or.inl (hin q h j hj))) (fun j hj _ => hF9.2 31 j (Or.inl (hin q h j hj)))
          · rw [List.mem_singleton.mp h]; exact hT9
        have hndall : (A :: (qs ++ [((x9, q9.1, fp9) : QT)]).flatMap (fun q => q.2.2)).Nodup := by
          rw [List.flatMap_append, List.flatMap_cons, List.flatMap_nil, List.append_nil]
          have hnd1 := List.nodup_cons.mp c3
          refine List.nodup_cons.mpr ⟨fun h => ?_, List.nodup_append.mpr ⟨hnd1.2, hn9, fun u hu v hv euv => ?_⟩⟩
          · rcases List.mem_append.mp h with h | h
            · exact hnd1.1 h
            · have := hr9 A h; omega
          · have h1 := c4 u (List.mem_cons_of_mem _ hu)
            have h2 := hr9 v hv
            omega
        have hadd := ptS_add (q0 := ((x9, q9.1, fp9) : QT)) hch2 hTall hndall
        have hroots : ∀ j ∈ qs.map (fun q => q.1), pl ≤ j ∧ j < cur := fun j hj => by
          obtain ⟨q, hq, rfl⟩ := List.mem_map.mp hj
          exact c4 _ (List.mem_cons_of_mem _ (List.mem_flatMap.mpr ⟨q, hq, (c2 q hq).lt.2⟩))
        have hxr := hr9 x9 hx9.2
        refine C.istore_n dX9_readAllOf_42 (by decide) rfl ?_
        refine C.iload_n dX9_readAllOf_43 rfl ?_
        refine C.if_ltI (tgt := 7) dX9_readAllOf_44 (by decide) (by omega) (fun hc44 => absurd hc44 (by omega)) (fun hc44 => ?_)
        refine C.aload_n dX9_readAllOf_47 rfl ?_
        refine C.iload_n dX9_readAllOf_48 rfl ?_
        refine C.iload_n dX9_readAllOf_49 rfl ?_
        refine C.mcall hL (m_puts (d := d - 1) (into := A) (one := x9) (ks := qs.map (fun q => q.1)) (by omega) hx9.1 (fun j hj => by have := hroots j hj; omega) (fun h => by have := hroots x9 h; omega) hch2) cw_X9_puts ml_X9_75 im_X9_puts sl_X9_puts dX9_readAllOf_50 rfl rfl (by omega) (Nat.le_refl _) (Nat.le_refl _) (Nat.le_of_ble_eq_true rfl) rfl (fun r50 sf50 sa50 hR50 => ?_)
        obtain ⟨rfl, hs, ha⟩ := hR50
        rw [hs, ha]
        clear hs ha
        refine C.goto (tgt := 7) dX9_readAllOf_53 (by decide) ?_
        refine hHead (qs ++ [((x9, q9.1, fp9) : QT)]) A pl9 q9.2 x9 _ _ (.and t q9.1) (by omega) g2 hx9.1 (by simp; omega) ⟨hadd.1, hadd.2, hndall, ?_, ?_, ⟨a, as ++ [q9.1], by rw [List.map_append, c6]; rfl, by rw [List.foldl_append, c7]; rfl⟩, ?_, by omega⟩ ?_
        · intro j hj
          rcases List.mem_cons.mp hj with rfl | hj
          · omega
          · rw [List.flatMap_append, List.flatMap_cons, List.flatMap_nil, List.append_nil] at hj
            rcases List.mem_append.mp hj with h | h
            · have := c4 j (List.mem_cons_of_mem _ h); omega
            · have := hr9 j h; omega
        · rw [ptS_fr 29 A (by simp) (by simp), hF9.2 29 A (Or.inl hAr.2)]
          exact c5
        · exact (c8.tr hF9 (Nat.le_refl pl) (by omega) (by omega) (Nat.le_refl pl9)).tr (ptS_Fr (lo := pl) (hi := pl9) (fun j hj => by have := hroots j hj; omega) (by omega) (by omega)) (Nat.le_refl _) (Nat.le_refl _) (Nat.le_refl _) (Nat.le_refl _)
        · exact hres
  have hM := hC (d := d - 1) (p := p) (pl := pl) (sf := sf) (sa := sa) (by omega) h
  cases hf : (itemP (sa 32) e k) p with
  | inr b1 =>
    rw [hf] at hM
    have hr2 : RES = .inr b1 := by
      rw [← hRES]
      show bnd ((itemP (sa 32) e k) p) (fun t p1 => seqF (sa 32) e zAnd .and (itemP (sa 32) e k) (e + 1) t p1) = _
      rw [hf]
      rfl
    refine C.aload_n dX9_readAllOf_0 rfl ?_
    refine C.mcall hL (hM) cw_X9_readItem ml_X9_146 im_X9_readItem sl_X9_readItem dX9_readAllOf_1 rfl rfl (by omega) (Nat.le_refl _) (Nat.le_refl _) (Nat.le_of_ble_eq_true rfl) rfl (fun r1 sf1 sa1 hR1 => ?_)
    obtain ⟨p9, pl9, rfl, hs, hF9⟩ := hR1
    rw [hs]
    clear hs
    refine C.istore_n dX9_readAllOf_4 (by decide) rfl ?_
    refine C.ic dX9_readAllOf_5 ?_
    refine C.istore_n dX9_readAllOf_6 (by decide) rfl ?_
    exact failX b1 p9 pl9 (-1) sa1 hr2 hF9 (by omega)
  | inl q9 =>
    rw [hf] at hM
    obtain ⟨g1, g2, g3, g4⟩ := hgood p hpe q9.1 q9.2 hf
    have hr2 : RES = seqF (sa 32) e zAnd .and (itemP (sa 32) e k) (e + 1) q9.1 q9.2 := by
      rw [← hRES]
      show bnd ((itemP (sa 32) e k) p) (fun t p1 => seqF (sa 32) e zAnd .and (itemP (sa 32) e k) (e + 1) t p1) = _
      rw [hf]
      rfl
    have hb := bl_le (tb := sa 32) g2
    have hb2 := bl_ge (sa 32) e q9.2
    have sk0 : seqF (sa 32) e zAnd .and (itemP (sa 32) e k) (e + 1) q9.1 q9.2 = if psP (sa 32) e q9.2 zAnd then bnd ((itemP (sa 32) e k) (wend (sa 32) e (bl (sa 32) e q9.2))) (fun t2 p3 => seqF (sa 32) e zAnd .and (itemP (sa 32) e k) e (.and q9.1 t2) p3) else .inl (q9.1, bl (sa 32) e q9.2) := by
      conv => lhs; unfold seqF
    cases hps : psP (sa 32) e q9.2 zAnd with
    | false =>
      rw [sk0, hps] at hr2
      simp only [Bool.false_eq_true, if_false] at hr2
      subst hr2
      refine C.aload_n dX9_readAllOf_0 rfl ?_
      refine C.mcall hL (hM) cw_X9_readItem ml_X9_146 im_X9_readItem sl_X9_readItem dX9_readAllOf_1 rfl rfl (by omega) (Nat.le_refl _) (Nat.le_refl _) (Nat.le_of_ble_eq_true rfl) rfl (fun r1 sf1 sa1 hR1 => ?_)
      obtain ⟨x9, pl9, b9, fp9, rfl, hs, hF9, hT9, hn9, hr9, hb9, hl9⟩ := hR1
      rw [hs]
      clear hs
      have hx9 := hT9.lt
      have e32 : sa1 32 = sa 32 := hF9.1 32 (by decide) (by decide) (by decide)
      have hP := m_passes (d := d - 1) (p := q9.2) (e := e) (j := 19) (zs := zAnd) (sf := sfR sf q9.2 b9 pl9) (sa := sa1) (by omega) rfl h23 he g2 (by intro j; rw [e32]; exact htb j) hTX
      rw [e32, hps] at hP
      simp only [Bool.false_eq_true, if_false] at hP
      rw [sfP_R] at hP
      refine C.istore_n dX9_readAllOf_4 (by decide) rfl ?_
      refine C.ic dX9_readAllOf_5 ?_
      refine C.istore_n dX9_readAllOf_6 (by decide) rfl ?_
      refine C.iload_n dX9_readAllOf_7 rfl ?_
      refine C.if_ltI (tgt := 56) dX9_readAllOf_8 (by decide) (by omega) (fun hc8 => absurd hc8 (by omega)) (fun hc8 => ?_)
      refine C.aload_n dX9_readAllOf_11 rfl ?_
      refine C.lds dX9_readAllOf_12 (j := 19) rfl ?_
      refine C.mcall hL (hP) cw_X9_passes ml_X9_143 im_X9_passes sl_X9_passes dX9_readAllOf_14 rfl rfl (by omega) (Nat.le_refl _) (Nat.le_refl _) (Nat.le_of_ble_eq_true rfl) rfl (fun r14 sf14 sa14 hR14 => ?_)
      obtain ⟨rfl, hs, ha⟩ := hR14
      rw [hs, ha]
      clear hs ha
      refine C.if_eqI (tgt := 56) dX9_readAllOf_17 (by decide) (by decide) (fun hc17 => ?_) (fun hc17 => absurd hc17 (fun h => h rfl))
      refine C.iload_n dX9_readAllOf_56 rfl ?_
      refine C.if_geI (tgt := 64) dX9_readAllOf_57 (by decide) (by omega) (fun hc57 => ?_) (fun hc57 => absurd hc57 (by omega))
      refine C.iload_n dX9_readAllOf_64 rfl ?_
      refine C.if_geI (tgt := 72) dX9_readAllOf_65 (by decide) (by omega) (fun hc65 => absurd hc65 (by omega)) (fun hc65 => ?_)
      refine C.iload_n dX9_readAllOf_68 rfl ?_
      refine C.goto (tgt := 73) dX9_readAllOf_69 (by decide) ?_
      refine C.retI rfl rfl dX9_readAllOf_73 (Nat.le_refl _) (Nat.le_refl _) ⟨_, _, ?_, rfl, rfl⟩
      exact ⟨x9, pl9, _, fp9, rfl, rfl, hF9, TA.mono _ (by omega) hT9, hn9, hr9, by omega, hl9⟩
    | true =>
      rw [sk0, hps] at hr2
      simp only [if_true] at hr2
      have hw := psP_len hps
      have hw2 := wend_le (tb := sa 32) hb
      simp at hw
      refine C.aload_n dX9_readAllOf_0 rfl ?_
      refine C.mcall hL (hM) cw_X9_readItem ml_X9_146 im_X9_readItem sl_X9_readItem dX9_readAllOf_1 rfl rfl (by omega) (Nat.le_refl _) (Nat.le_refl _) (Nat.le_of_ble_eq_true rfl) rfl (fun r1 sf1 sa1 hR1 => ?_)
      obtain ⟨x9, pl9, b9, fp9, rfl, hs, hF9, hT9, hn9, hr9, hb9, hl9⟩ := hR1
      rw [hs]
      clear hs
      have hx9 := hT9.lt
      have hxr := hr9 x9 hx9.2
      have e32 : sa1 32 = sa 32 := hF9.1 32 (by decide) (by decide) (by decide)
      have hP := m_passes (d := d - 1) (p := q9.2) (e := e) (j := 19) (zs := zAnd) (sf := sfR sf q9.2 b9 pl9) (sa := sa1) (by omega) rfl h23 he g2 (by intro j; rw [e32]; exact htb j) hTX
      rw [e32, hps] at hP
      simp only [if_true] at hP
      rw [sfP_R] at hP
      have hPl := plS_fr sa1 pl9 1000
      have hTp : TA (plS sa1 pl9 1000 29) (plS sa1 pl9 1000 30) (plS sa1 pl9 1000 31) (2 * k + 1) x9 q9.1 fp9 := TA.congr _ hT9 hn9 (fun j hj => hPl.2 29 j (Or.inl (hr9 j hj).2)) (fun j hj => hPl.2 30 j (Or.inl (hr9 j hj).2)) (fun j hj _ => hPl.2 31 j (Or.inl (hr9 j hj).2))
      have hch0 : chn (plS sa1 pl9 1000 31) (plS sa1 pl9 1000 30 pl9) (([] : List QT).map (fun q => q.1)) := va_up_self (sa1 30) _ _
      have hnd0 : (pl9 :: (([] : List QT) ++ [((x9, q9.1, fp9) : QT)]).flatMap (fun q => q.2.2)).Nodup := by
        simp only [List.nil_append, List.flatMap_cons, List.flatMap_nil, List.append_nil]
        exact List.nodup_cons.mpr ⟨fun h => by have := hr9 pl9 h; omega, hn9⟩
      have hadd := ptS_add (N := 2 * k + 1) (q0 := ((x9, q9.1, fp9) : QT)) hch0 (fun q hq => by rw [List.mem_singleton.mp hq]; exact hTp) hnd0
      refine C.istore_n dX9_readAllOf_4 (by decide) rfl ?_
      refine C.ic dX9_readAllOf_5 ?_
      refine C.istore_n dX9_readAllOf_6 (by decide) rfl ?_
      refine C.iload_n dX9_readAllOf_7 rfl ?_
      refine C.if_ltI (tgt := 56) dX9_readAllOf_8 (by decide) (by omega) (fun hc8 => absurd hc8 (by omega)) (fun hc8 => ?_)
      refine C.aload_n dX9_readAllOf_11 rfl ?_
      refine C.lds dX9_readAllOf_12 (j := 19) rfl ?_
      refine C.mcall hL (hP) cw_X9_passes ml_X9_143 im_X9_passes sl_X9_passes dX9_readAllOf_14 rfl rfl (by omega) (Nat.le_refl _) (Nat.le_refl _) (Nat.le_of_ble_eq_true rfl) rfl (fun r14 sf14 sa14 hR14 => ?_)
      obtain ⟨rfl, hs, ha⟩ := hR14
      rw [hs, ha]
      clear hs ha
      refine C.if_eqI (tgt := 56) dX9_readAllOf_17 (by decide) (by decide) (fun hc17 => absurd hc17 (by decide)) (fun hc17 => ?_)
      refine C.iload_n dX9_readAllOf_20 rfl ?_
      refine C.if_geI (tgt := 38) dX9_readAllOf_21 (by decide) (by omega) (fun hc21 => absurd hc21 (by omega)) (fun hc21 => ?_)
      refine C.aload_n dX9_readAllOf_24 rfl ?_
      refine C.si dX9_readAllOf_25 (by decide) ?_
      refine C.mcall hL (m_place2 (d := d - 1) (sf := sfR sf (wend (sa 32) e (bl (sa 32) e q9.2)) (bl (sa 32) e q9.2) pl9) (sa := sa1) (pl := pl9) rfl (by omega)) cw_X9_place ml_X9_68 im_X9_place sl_X9_place dX9_readAllOf_28 rfl rfl (by omega) (Nat.le_refl _) (Nat.le_refl _) (Nat.le_of_ble_eq_true rfl) rfl (fun r28 sf28 sa28 hR28 => ?_)
      obtain ⟨rfl, hs, ha⟩ := hR28
      rw [hs, ha, sfR_17]
      clear hs ha
      refine C.istore_n dX9_readAllOf_31 (by decide) rfl ?_
      refine C.aload_n dX9_readAllOf_32 rfl ?_
      refine C.iload_n dX9_readAllOf_33 rfl ?_
      refine C.iload_n dX9_readAllOf_34 rfl ?_
      refine C.mcall hL (m_puts (d := d - 1) (into := pl9) (one := x9) (ks := []) (by omega) hx9.1 (fun j hj => by cases hj) (fun hj => by cases hj) hch0) cw_X9_puts ml_X9_75 im_X9_puts sl_X9_puts dX9_readAllOf_35 rfl rfl (by omega) (Nat.le_refl _) (Nat.le_refl _) (Nat.le_of_ble_eq_true rfl) rfl (fun r35 sf35 sa35 hR35 => ?_)
      obtain ⟨rfl, hs, ha⟩ := hR35
      rw [hs, ha]
      clear hs ha
      refine (main e).2 [((x9, q9.1, fp9) : QT)] pl9 (pl9 + 1) _ x9 _ _ q9.1 (by omega) hw2 (by simp) ⟨hadd.1, hadd.2, hnd0, ?_, ?_, ⟨q9.1, [], rfl, rfl⟩, ?_, by omega⟩ hr2.symm
      · intro j hj
        rcases List.mem_cons.mp hj with rfl | hj
        · omega
        · simp only [List.flatMap_cons, List.flatMap_nil, List.append_nil] at hj
          have := hr9 j hj; omega
      · rw [ptS_fr 29 pl9 (by simp) (by simp)]
        exact va_up_self (sa1 29) _ _
      · exact (hF9.tr hPl (Nat.le_refl pl) (by omega) (by omega) (Nat.le_refl _)).tr (ptS_Fr (lo := pl) (hi := pl9 + 1) (fun j hj => by cases hj) (by omega) (by omega)) (Nat.le_refl _) (Nat.le_refl _) (Nat.le_refl _) (Nat.le_refl _)

set_option maxRecDepth 20000 in
set_option maxHeartbeats 4000000 in
theorem m_readCond {k e : Nat} (hk : k ≤ 12) (hC : ∀ {d p pl : Nat} {sf : SF} {sa : SA}, 7 + 3 * k ≤ d → RD k e p pl sf sa → MM yX9_readAllOf cX9_readAllOf 3 (some .int) d [] sf sa (RP (2 * k + 2) (((allOf (sa 32) e zAnd .and (itemP (sa 32) e k)) p)) pl p sf sa)) {d p pl : Nat} {sf : SF} {sa : SA} (hd : 8 + 3 * k ≤ d) (h : RD k e p pl sf sa) : MM yX9_readCond cX9_readCond 3 (some .int) d [] sf sa (RP (2 * k + 2 + 1) (allOf (sa 32) e zOr .or (allOf (sa 32) e zAnd .and (itemP (sa 32) e k)) p) pl p sf sa) := by
  obtain ⟨h22, h23, h26, h17, hpe, he, htb, hplp⟩ := id h
  have hgood : Good e (allOf (sa 32) e zAnd .and (itemP (sa 32) e k)) := allP_good (sa 32) e k
  generalize hRES : allOf (sa 32) e zOr .or (allOf (sa 32) e zAnd .and (itemP (sa 32) e k)) p = RES
  have hTX : TX 20 zOr := ⟨⟨_, rfl, by decide⟩, by decide, by decide⟩
  refine MM.of2 (by decide +kernel) rfl (Nat.le_of_ble_eq_true rfl) (fun L g hL X C => ?_)
  have failX : ∀ (b : Nat) (p1 pl1 z : Int) (s : SA), RES = .inr b → Fr sa s pl 1400 → -2147483648 ≤ z ∧ z < 2147483648 → X 0 0 L (ov (sfR sf p1 b pl1) s g) 7 [some (.ref 20), some (.int (iI (-1))), some (.int (iI z))] [] := by
    intro b p1 pl1 z s hr hF hz
    subst hr
    refine C.iload_n dX9_readCond_7 rfl ?_
    refine C.if_ltI (tgt := 56) dX9_readCond_8 (by decide) (by omega) (fun hc8 => ?_) (fun hc8 => absurd hc8 (by omega))
    refine C.iload_n dX9_readCond_56 rfl ?_
    refine C.if_geI (tgt := 64) dX9_readCond_57 (by decide) (by omega) (fun hc57 => absurd hc57 (by omega)) (fun hc57 => ?_)
    refine C.ic dX9_readCond_60 ?_
    refine C.goto (tgt := 73) dX9_readCond_61 (by decide) ?_
    refine C.retI rfl (by first | rfl | (exact (iI_bool (by first | exact Or.inl rfl | exact Or.inr rfl | assumption)).1)) dX9_readCond_73 (Nat.le_refl _) (Nat.le_refl _) ⟨_, _, ?_, rfl, rfl⟩
    exact ⟨p1, pl1, rfl, rfl, hF⟩
  have main : ∀ (n : Nat), (∀ (qs : List QT) (A cur p1 x : Nat) (b : Int) (s : SA) (t : TT), e < p1 + n → p1 ≤ e → x < 1400 → 2 ≤ qs.length → (chn (s 31) (s 30 A) (qs.map (fun q => q.1)) ∧ (∀ q ∈ qs, TA (s 29) (s 30) (s 31) (2 * k + 2) q.1 q.2.1 q.2.2) ∧ (A :: qs.flatMap (fun q => q.2.2)).Nodup ∧ (∀ j ∈ A :: qs.flatMap (fun q => q.2.2), pl ≤ j ∧ j < cur) ∧ s 29 A = 2000 ∧ (∃ a as, qs.map (fun q => q.2.1) = a :: as ∧ t = as.foldl .or a) ∧ Fr sa s pl cur ∧ cur + p ≤ pl + p1) → seqF (sa 32) e zOr .or (allOf (sa 32) e zAnd .and (itemP (sa 32) e k)) n t p1 = RES → X 0 0 L (ov (sfR sf p1 b cur) s g) 7 [some (.ref 20), some (.int (iI x)), some (.int (iI A))] []) ∧
      (∀ (qs : List QT) (A cur p2 x : Nat) (b : Int) (s : SA) (t : TT), e < p2 + n → p2 ≤ e → 1 ≤ qs.length → (chn (s 31) (s 30 A) (qs.map (fun q => q.1)) ∧ (∀ q ∈ qs, TA (s 29) (s 30) (s 31) (2 * k + 2) q.1 q.2.1 q.2.2) ∧ (A :: qs.flatMap (fun q => q.2.2)).Nodup ∧ (∀ j ∈ A :: qs.flatMap (fun q => q.2.2), pl ≤ j ∧ j < cur) ∧ s 29 A = 2000 ∧ (∃ a as, qs.map (fun q => q.2.1) = a :: as ∧ t = as.foldl .or a) ∧ Fr sa s pl cur ∧ cur + p ≤ pl + p2) → bnd ((allOf (sa 32) e zAnd .and (itemP (sa 32) e k)) p2) (fun t2 p3 => seqF (sa 32) e zOr .or (allOf (sa 32) e zAnd .and (itemP (sa 32) e k)) n (.or t t2) p3) = RES → X 0 0 L (ov (sfR sf p2 b cur) s g) 38 [some (.ref 20), some (.int (iI x)), some (.int (iI A))] []) := by
    intro n
    induction n with
    | zero => exact ⟨fun qs A cur p1 x b s t h1 h2 => by omega, fun qs A cur p2 x b s t h1 h2 => by omega⟩
    | succ n ih =>
      have hHead : ∀ (qs : List QT) (A cur p1 x : Nat) (b : Int) (s : SA) (t : TT), e < p1 + (n + 1) → p1 ≤ e → x < 1400 → 2 ≤ qs.length → (chn (s 31) (s 30 A) (qs.map (fun q => q.1)) ∧ (∀ q ∈ qs, TA (s 29) (s 30) (s 31) (2 * k + 2) q.1 q.2.1 q.2.2) ∧ (A :: qs.flatMap (fun q => q.2.2)).Nodup ∧ (∀ j ∈ A :: qs.flatMap (fun q => q.2.2), pl ≤ j ∧ j < cur) ∧ s 29 A = 2000 ∧ (∃ a as, qs.map (fun q => q.2.1) = a :: as ∧ t = as.foldl .or a) ∧ Fr sa s pl cur ∧ cur + p ≤ pl + p1) → seqF (sa 32) e zOr .or (allOf (sa 32) e zAnd .and (itemP (sa 32) e k)) (n + 1) t p1 = RES → X 0 0 L (ov (sfR sf p1 b cur) s g) 7 [some (.ref 20), some (.int (iI x)), some (.int (iI A))] [] := by
        intro qs A cur p1 x b s t hn1 hp1 hx hq2 hCF hres
        obtain ⟨c1, c2, c3, c4, c5, ⟨a, as, c6, c7⟩, c8, c9⟩ := id hCF
        have hAr := c4 A List.mem_cons_self
        have e32 : s 32 = sa 32 := c8.1 32 (by decide) (by decide) (by decide)
        have hb := bl_le (tb := sa 32) hp1
        have hb2 := bl_ge (sa 32) e p1
        have hP := m_passes (d := d - 1) (p := p1) (e := e) (j := 20) (zs := zOr) (sf := sfR sf p1 b cur) (sa := s) (by omega) rfl h23 he hp1 (by intro j; rw [e32]; exact htb j) hTX
        rw [e32] at hP
        cases hps : psP (sa 32) e p1 zOr with
        | true =>
          rw [hps] at hP
          simp only [if_true] at hP
          rw [sfP_R] at hP
          have hw := psP_len hps
          have hw2 := wend_le (tb := sa 32) hb
          have hr2 : bnd ((allOf (sa 32) e zAnd .and (itemP (sa 32) e k)) (wend (sa 32) e (bl (sa 32) e p1))) (fun t2 p3 => seqF (sa 32) e zOr .or (allOf (sa 32) e zAnd .and (itemP (sa 32) e k)) n (.or t t2) p3) = RES := by
            rw [← hres]
            conv => rhs; unfold seqF
            rw [if_pos hps]
          simp at hw
          refine C.iload_n dX9_readCond_7 rfl ?_
          refine C.if_ltI (tgt := 56) dX9_readCond_8 (by decide) (by omega) (fun hc8 => absurd hc8 (by omega)) (fun hc8 => ?_)
          refine C.aload_n dX9_readCond_11 rfl ?_
          refine C.lds dX9_readCond_12 (j := 20) rfl ?_
          refine C.mcall hL (hP) cw_X9_passes ml_X9_143 im_X9_passes sl_X9_passes dX9_readCond_14 rfl rfl (by omega) (Nat.le_refl _) (Nat.le_refl _) (Nat.le_of_ble_eq_true rfl) rfl (fun r14 sf14 sa14 hR14 => ?_)
          obtain ⟨rfl, hs, ha⟩ := hR14
          rw [hs, ha]
          clear hs ha
          refine C.if_eqI (tgt := 56) dX9_readCond_17 (by decide) (by decide) (fun hc17 => absurd hc17 (by decide)) (fun hc17 => ?_)
          refine C.iload_n dX9_readCond_20 rfl ?_
          refine C.if_geI (tgt := 38) dX9_readCond_21 (by decide) (by omega) (fun hc21 => ?_) (fun hc21 => absurd hc21 (by omega))
          exact ih.2 qs A cur _ x _ s t (by omega) hw2 (by omega) ⟨c1, c2, c3, c4, c5, ⟨a, as, c6, c7⟩, c8, by omega⟩ hr2
        | false =>
          rw [hps] at hP
          simp only [Bool.false_eq_true, if_false] at hP
          rw [sfP_R] at hP
          have hr2 : RES = .inl (t, bl (sa 32) e p1) := by
            rw [← hres]
            unfold seqF
            rw [hps]
            rfl
          subst hr2
          refine C.iload_n dX9_readCond_7 rfl ?_
          refine C.if_ltI (tgt := 56) dX9_readCond_8 (by decide) (by omega) (fun hc8 => absurd hc8 (by omega)) (fun hc8 => ?_)
          refine C.aload_n dX9_readCond_11 rfl ?_
          refine C.lds dX9_readCond_12 (j := 20) rfl ?_
          refine C.mcall hL (hP) cw_X9_passes ml_X9_143 im_X9_passes sl_X9_passes dX9_readCond_14 rfl rfl (by omega) (Nat.le_refl _) (Nat.le_refl _) (Nat.le_of_ble_eq_true rfl) rfl (fun r14 sf14 sa14 hR14 => ?_)
          obtain ⟨rfl, hs, ha⟩ := hR14
          rw [hs, ha]
          clear hs ha
          refine C.if_eqI (tgt := 56) dX9_readCond_17 (by decide) (by decide) (fun hc17 => ?_) (fun hc17 => absurd hc17 (fun h => h rfl))
          refine C.iload_n dX9_readCond_56 rfl ?_
          refine C.if_geI (tgt := 64) dX9_readCond_57 (by decide) (by omega) (fun hc57 => ?_) (fun hc57 => absurd hc57 (by omega))
          refine C.iload_n dX9_readCond_64 rfl ?_
          refine C.if_geI (tgt := 72) dX9_readCond_65 (by decide) (by omega) (fun hc65 => ?_) (fun hc65 => absurd hc65 (by omega))
          refine C.iload_n dX9_readCond_72 rfl ?_
          refine C.retI rfl rfl dX9_readCond_73 (Nat.le_refl _) (Nat.le_refl _) ⟨_, _, ?_, rfl, rfl⟩
          refine ⟨A, cur, _, A :: qs.flatMap (fun q => q.2.2), rfl, rfl, c8, ⟨by omega, qs, c1, c2, rfl, ?_⟩, c3, c4, by omega, by omega⟩
          rw [c5, c6, c7]
          cases as with
          | nil => have := congrArg List.length c6; simp at this; omega
          | cons a2 as => exact Or.inr <| Or.inr <| Or.inr ⟨a, a2, as, rfl, rfl, rfl⟩
      refine ⟨hHead, ?_⟩
      intro qs A cur p2 x b s t hn1 hp2 hq1 hCF hres
      obtain ⟨c1, c2, c3, c4, c5, ⟨a, as, c6, c7⟩, c8, c9⟩ := id hCF
      have hAr := c4 A List.mem_cons_self
      have e32 : s 32 = sa 32 := c8.1 32 (by decide) (by decide) (by decide)
      have hM := hC (d := d - 1) (p := p2) (pl := cur) (sf := sfR sf p2 b cur) (sa := s) (by omega) ⟨rfl, h23, h26, rfl, hp2, he, by intro j; rw [e32]; exact htb j, by omega⟩
      rw [e32] at hM
      cases hf : (allOf (sa 32) e zAnd .and (itemP (sa 32) e k)) p2 with
      | inr b1 =>
        rw [hf] at hM hres
        refine C.aload_n dX9_readCond_38 rfl ?_
        refine C.mcall hL (hM) cw_X9_readAllOf ml_X9_156 im_X9_readAllOf sl_X9_readAllOf dX9_readCond_39 rfl rfl (by omega) (Nat.le_refl _) (Nat.le_refl _) (Nat.le_of_ble_eq_true rfl) rfl (fun r39 sf39 sa39 hR39 => ?_)
        obtain ⟨p9, pl9, rfl, hs, hF9⟩ := hR39
        rw [hs, sfR_R]
        clear hs
        refine C.istore_n dX9_readCond_42 (by decide) rfl ?_
        refine C.iload_n dX9_readCond_43 rfl ?_
        refine C.if_ltI (tgt := 7) dX9_readCond_44 (by decide) (by omega) (fun hc44 => ?_) (fun hc44 => absurd hc44 (by omega))
        exact failX b1 p9 pl9 A sa39 hres.symm (c8.tr hF9 (Nat.le_refl _) (by omega) (by omega) (Nat.le_refl _)) (by omega)
      | inl q9 =>
        rw [hf] at hM hres
        obtain ⟨g1, g2, g3, g4⟩ := hgood p2 hp2 q9.1 q9.2 hf
        refine C.aload_n dX9_readCond_38 rfl ?_
        refine C.mcall hL (hM) cw_X9_readAllOf ml_X9_156 im_X9_readAllOf sl_X9_readAllOf dX9_readCond_39 rfl rfl (by omega) (Nat.le_refl _) (Nat.le_refl _) (Nat.le_of_ble_eq_true rfl) rfl (fun r39 sf39 sa39 hR39 => ?_)
        obtain ⟨x9, pl9, b9, fp9, rfl, hs, hF9, hT9, hn9, hr9, hb9, hl9⟩ := hR39
        rw [hs, sfR_R]
        clear hs
        have hx9 := hT9.lt
        have hndq : ∀ q ∈ qs, q.2.2.Nodup := fun q hq => nodup_part (List.nodup_cons.mp c3).2 hq
        have hin : ∀ q ∈ qs, ∀ j ∈ q.2.2, j < cur := fun q hq j hj => (c4 j (List.mem_cons_of_mem _ (List.mem_flatMap.mpr ⟨q, hq, hj⟩))).2
        have hch2 : chn (sa39 31) (sa39 30 A) (qs.map (fun q => q.1)) := by
          rw [hF9.2 30 A (Or.inl hAr.2)]
          refine chn_congr _ _ (fun j hj => ?_) c1
          obtain ⟨q, hq, rfl⟩ := List.mem_map.mp hj
          exact hF9.2 31 _ (Or.inl (hin q hq _ (c2 q hq).lt.2))
        have hTall : ∀ q ∈ qs ++ [((x9, q9.1, fp9) : QT)], TA (sa39 29) (sa39 30) (sa39 31) (2 * k + 2) q.1 q.2.1 q.2.2 := fun q hq => by
          rcases List.mem_append.mp hq with h | h
          · exact TA.congr _ (c2 q h) (hndq q h) (fun j hj => hF9.2 29 j (Or.inl (hin q h j hj))) (fun j hj => hF9.2 30 j (Or.inl (hin q h j hj))) (fun j hj _ => hF9.2 31 j (Or.inl (hin q h j hj)))
          · rw [List.mem_singleton.mp h]; exact hT9
        have hndall : (A :: (qs ++ [((x9, q9.1, fp9) : QT)]).flatMap (fun q => q.2.2)).Nodup := by
          rw [List.flatMap_append, List.flatMap_cons, List.flatMap_nil, List.append_nil]
          have hnd1 := List.nodup_cons.mp c3
          refine List.nodup_cons.mpr ⟨fun h => ?_, List.nodup_append.mpr ⟨hnd1.2, hn9, fun u hu v hv euv => ?_⟩⟩
          · rcases List.mem_append.mp h with h | h
            · exact hnd1.1 h
            · have := hr9 A h; omega
          · have h1 := c4 u (List.mem_cons_of_mem _ hu)
            have h2 := hr9 v hv
            omega
        have hadd := ptS_add (q0 := ((x9, q9.1, fp9) : QT)) hch2 hTall hndall
        have hroots : ∀ j ∈ qs.map (fun q => q.1), pl ≤ j ∧ j < cur := fun j hj => by
          obtain ⟨q, hq, rfl⟩ := List.mem_map.mp hj
          exact c4 _ (List.mem_cons_of_mem _ (List.mem_flatMap.mpr ⟨q, hq, (c2 q hq).lt.2⟩))
        have hxr := hr9 x9 hx9.2
        refine C.istore_n dX9_readCond_42 (by decide) rfl ?_
        refine C.iload_n dX9_readCond_43 rfl ?_
        refine C.if_ltI (tgt := 7) dX9_readCond_44 (by decide) (by omega) (fun hc44 => absurd hc44 (by omega)) (fun hc44 => ?_)
        refine C.aload_n dX9_readCond_47 rfl ?_
        refine C.iload_n dX9_readCond_48 rfl ?_
        refine C.iload_n dX9_readCond_49 rfl ?_
        refine C.mcall hL (m_puts (d := d - 1) (into := A) (one := x9) (ks := qs.map (fun q => q.1)) (by omega) hx9.1 (fun j hj => by have := hroots j hj; omega) (fun h => by have := hroots x9 h; omega) hch2) cw_X9_puts ml_X9_75 im_X9_puts sl_X9_puts dX9_readCond_50 rfl rfl (by omega) (Nat.le_refl _) (Nat.le_refl _) (Nat.le_of_ble_eq_true rfl) rfl (fun r50 sf50 sa50 hR50 => ?_)
        obtain ⟨rfl, hs, ha⟩ := hR50
        rw [hs, ha]
        clear hs ha
        refine C.goto (tgt := 7) dX9_readCond_53 (by decide) ?_
        refine hHead (qs ++ [((x9, q9.1, fp9) : QT)]) A pl9 q9.2 x9 _ _ (.or t q9.1) (by omega) g2 hx9.1 (by simp; omega) ⟨hadd.1, hadd.2, hndall, ?_, ?_, ⟨a, as ++ [q9.1], by rw [List.map_append, c6]; rfl, by rw [List.foldl_append, c7]; rfl⟩, ?_, by omega⟩ ?_
        · intro j hj
          rcases List.mem_cons.mp hj with rfl | hj
          · omega
          · rw [List.flatMap_append, List.flatMap_cons, List.flatMap_nil, List.append_nil] at hj
            rcases List.mem_append.mp hj with h | h
            · have := c4 j (List.mem_cons_of_mem _ h); omega
            · have := hr9 j h; omega
        · rw [ptS_fr 29 A (by simp) (by simp), hF9.2 29 A (Or.inl hAr.2)]
          exact c5
        · exact (c8.tr hF9 (Nat.le_refl pl) (by omega) (by omega) (Nat.le_refl pl9)).tr (ptS_Fr (lo := pl) (hi := pl9) (fun j hj => by have := hroots j hj; omega) (by omega) (by omega)) (Nat.le_refl _) (Nat.le_refl _) (Nat.le_refl _) (Nat.le_refl _)
        · exact hres
  have hM := hC (d := d - 1) (p := p) (pl := pl) (sf := sf) (sa := sa) (by omega) h
  cases hf : (allOf (sa 32) e zAnd .and (itemP (sa 32) e k)) p with
  | inr b1 =>
    rw [hf] at hM
    have hr2 : RES = .inr b1 := by
      rw [← hRES]
      show bnd ((allOf (sa 32) e zAnd .and (itemP (sa 32) e k)) p) (fun t p1 => seqF (sa 32) e zOr .or (allOf (sa 32) e zAnd .and (itemP (sa 32) e k)) (e + 1) t p1) = _
      rw [hf]
      rfl
    refine C.aload_n dX9_readCond_0 rfl ?_
    refine C.mcall hL (hM) cw_X9_readAllOf ml_X9_156 im_X9_readAllOf sl_X9_readAllOf dX9_readCond_1 rfl rfl (by omega) (Nat.le_refl _) (Nat.le_refl _) (Nat.le_of_ble_eq_true rfl) rfl (fun r1 sf1 sa1 hR1 => ?_)
    obtain ⟨p9, pl9, rfl, hs, hF9⟩ := hR1
    rw [hs]
    clear hs
    refine C.istore_n dX9_readCond_4 (by decide) rfl ?_
    refine C.ic dX9_readCond_5 ?_
    refine C.istore_n dX9_readCond_6 (by decide) rfl ?_
    exact failX b1 p9 pl9 (-1) sa1 hr2 hF9 (by omega)
  | inl q9 =>
    rw [hf] at hM
    obtain ⟨g1, g2, g3, g4⟩ := hgood p hpe q9.1 q9.2 hf
    have hr2 : RES = seqF (sa 32) e zOr .or (allOf (sa 32) e zAnd .and (itemP (sa 32) e k)) (e + 1) q9.1 q9.2 := by
      rw [← hRES]
      show bnd ((allOf (sa 32) e zAnd .and (itemP (sa 32) e k)) p) (fun t p1 => seqF (sa 32) e zOr .or (allOf (sa 32) e zAnd .and (itemP (sa 32) e k)) (e + 1) t p1) = _
      rw [hf]
      rfl
    have hb := bl_le (tb := sa 32) g2
    have hb2 := bl_ge (sa 32) e q9.2
    have sk0 : seqF (sa 32) e zOr .or (allOf (sa 32) e zAnd .and (itemP (sa 32) e k)) (e + 1) q9.1 q9.2 = if psP (sa 32) e q9.2 zOr then bnd ((allOf (sa 32) e zAnd .and (itemP (sa 32) e k)) (wend (sa 32) e (bl (sa 32) e q9.2))) (fun t2 p3 => seqF (sa 32) e zOr .or (allOf (sa 32) e zAnd .and (itemP (sa 32) e k)) e (.or q9.1 t2) p3) else .inl (q9.1, bl (sa 32) e q9.2) := by
      conv => lhs; unfold seqF
    cases hps : psP (sa 32) e q9.2 zOr with
    | false =>
      rw [sk0, hps] at hr2
      simp only [Bool.false_eq_true, if_false] at hr2
      subst hr2
      refine C.aload_n dX9_readCond_0 rfl ?_
      refine C.mcall hL (hM) cw_X9_readAllOf ml_X9_156 im_X9_readAllOf sl_X9_readAllOf dX9_readCond_1 rfl rfl (by omega) (Nat.le_refl _) (Nat.le_refl _) (Nat.le_of_ble_eq_true rfl) rfl (fun r1 sf1 sa1 hR1 => ?_)
      obtain ⟨x9, pl9, b9, fp9, rfl, hs, hF9, hT9, hn9, hr9, hb9, hl9⟩ := hR1
      rw [hs]
      clear hs
      have hx9 := hT9.lt
      have e32 : sa1 32 = sa 32 := hF9.1 32 (by decide) (by decide) (by decide)
      have hP := m_passes (d := d - 1) (p := q9.2) (e := e) (j := 20) (zs := zOr) (sf := sfR sf q9.2 b9 pl9) (sa := sa1) (by omega) rfl h23 he g2 (by intro j; rw [e32]; exact htb j) hTX
      rw [e32, hps] at hP
      simp only [Bool.false_eq_true, if_false] at hP
      rw [sfP_R] at hP
      refine C.istore_n dX9_readCond_4 (by decide) rfl ?_
      refine C.ic dX9_readCond_5 ?_
      refine C.istore_n dX9_readCond_6 (by decide) rfl ?_
      refine C.iload_n dX9_readCond_7 rfl ?_
      refine C.if_ltI (tgt := 56) dX9_readCond_8 (by decide) (by omega) (fun hc8 => absurd hc8 (by omega)) (fun hc8 => ?_)
      refine C.aload_n dX9_readCond_11 rfl ?_
      refine C.lds dX9_readCond_12 (j := 20) rfl ?_
      refine C.mcall hL (hP) cw_X9_passes ml_X9_143 im_X9_passes sl_X9_passes dX9_readCond_14 rfl rfl (by omega) (Nat.le_refl _) (Nat.le_refl _) (Nat.le_of_ble_eq_true rfl) rfl (fun r14 sf14 sa14 hR14 => ?_)
      obtain ⟨rfl, hs, ha⟩ := hR14
      rw [hs, ha]
      clear hs ha
      refine C.if_eqI (tgt := 56) dX9_readCond_17 (by decide) (by decide) (fun hc17 => ?_) (fun hc17 => absurd hc17 (fun h => h rfl))
      refine C.iload_n dX9_readCond_56 rfl ?_
      refine C.if_geI (tgt := 64) dX9_readCond_57 (by decide) (by omega) (fun hc57 => ?_) (fun hc57 => absurd hc57 (by omega))
      refine C.iload_n dX9_readCond_64 rfl ?_
      refine C.if_geI (tgt := 72) dX9_readCond_65 (by decide) (by omega) (fun hc65 => absurd hc65 (by omega)) (fun hc65 => ?_)
      refine C.iload_n dX9_readCond_68 rfl ?_
      refine C.goto (tgt := 73) dX9_readCond_69 (by decide) ?_
      refine C.retI rfl rfl dX9_readCond_73 (Nat.le_refl _) (Nat.le_refl _) ⟨_, _, ?_, rfl, rfl⟩
      exact ⟨x9, pl9, _, fp9, rfl, rfl, hF9, TA.mono _ (by omega) hT9, hn9, hr9, by omega, hl9⟩
    | true =>
      rw [sk0, hps] at hr2
      simp only [if_true] at hr2
      have hw := psP_len hps
      have hw2 := wend_le (tb := sa 32) hb
      simp at hw
      refine C.aload_n dX9_readCond_0 rfl ?_
      refine C.mcall hL (hM) cw_X9_readAllOf ml_X9_156 im_X9_readAllOf sl_X9_readAllOf dX9_readCond_1 rfl rfl (by omega) (Nat.le_refl _) (Nat.le_refl _) (Nat.le_of_ble_eq_true rfl) rfl (fun r1 sf1 sa1 hR1 => ?_)
      obtain ⟨x9, pl9, b9, fp9, rfl, hs, hF9, hT9, hn9, hr9, hb9, hl9⟩ := hR1
      rw [hs]
      clear hs
      have hx9 := hT9.lt
      have hxr := hr9 x9 hx9.2
      have e32 : sa1 32 = sa 32 := hF9.1 32 (by decide) (by decide) (by decide)
      have hP := m_passes (d := d - 1) (p := q9.2) (e := e) (j := 20) (zs := zOr) (sf := sfR sf q9.2 b9 pl9) (sa := sa1) (by omega) rfl h23 he g2 (by intro j; rw [e32]; exact htb j) hTX
      rw [e32, hps] at hP
      simp only [if_true] at hP
      rw [sfP_R] at hP
      have hPl := plS_fr sa1 pl9 2000
      have hTp : TA (plS sa1 pl9 2000 29) (plS sa1 pl9 2000 30) (plS sa1 pl9 2000 31) (2 * k + 2) x9 q9.1 fp9 := TA.congr _ hT9 hn9 (fun j hj => hPl.2 29 j (Or.inl (hr9 j hj).2)) (fun j hj => hPl.2 30 j (Or.inl (hr9 j hj).2)) (fun j hj _ => hPl.2 31 j (Or.inl (hr9 j hj).2))
      have hch0 : chn (plS sa1 pl9 2000 31) (plS sa1 pl9 2000 30 pl9) (([] : List QT).map (fun q => q.1)) := va_up_self (sa1 30) _ _
      have hnd0 : (pl9 :: (([] : List QT) ++ [((x9, q9.1, fp9) : QT)]).flatMap (fun q => q.2.2)).Nodup := by
        simp only [List.nil_append, List.flatMap_cons, List.flatMap_nil, List.append_nil]
        exact List.nodup_cons.mpr ⟨fun h => by have := hr9 pl9 h; omega, hn9⟩
      have hadd := ptS_add (N := 2 * k + 2) (q0 := ((x9, q9.1, fp9) : QT)) hch0 (fun q hq => by rw [List.mem_singleton.mp hq]; exact hTp) hnd0
      refine C.istore_n dX9_readCond_4 (by decide) rfl ?_
      refine C.ic dX9_readCond_5 ?_
      refine C.istore_n dX9_readCond_6 (by decide) rfl ?_
      refine C.iload_n dX9_readCond_7 rfl ?_
      refine C.if_ltI (tgt := 56) dX9_readCond_8 (by decide) (by omega) (fun hc8 => absurd hc8 (by omega)) (fun hc8 => ?_)
      refine C.aload_n dX9_readCond_11 rfl ?_
      refine C.lds dX9_readCond_12 (j := 20) rfl ?_
      refine C.mcall hL (hP) cw_X9_passes ml_X9_143 im_X9_passes sl_X9_passes dX9_readCond_14 rfl rfl (by omega) (Nat.le_refl _) (Nat.le_refl _) (Nat.le_of_ble_eq_true rfl) rfl (fun r14 sf14 sa14 hR14 => ?_)
      obtain ⟨rfl, hs, ha⟩ := hR14
      rw [hs, ha]
      clear hs ha
      refine C.if_eqI (tgt := 56) dX9_readCond_17 (by decide) (by decide) (fun hc17 => absurd hc17 (by decide)) (fun hc17 => ?_)
      refine C.iload_n dX9_readCond_20 rfl ?_
      refine C.if_geI (tgt := 38) dX9_readCond_21 (by decide) (by omega) (fun hc21 => absurd hc21 (by omega)) (fun hc21 => ?_)
      refine C.aload_n dX9_readCond_24 rfl ?_
      refine C.si dX9_readCond_25 (by decide) ?_
      refine C.mcall hL (m_place2 (d := d - 1) (sf := sfR sf (wend (sa 32) e (bl (sa 32) e q9.2)) (bl (sa 32) e q9.2) pl9) (sa := sa1) (pl := pl9) rfl (by omega)) cw_X9_place ml_X9_68 im_X9_place sl_X9_place dX9_readCond_28 rfl rfl (by omega) (Nat.le_refl _) (Nat.le_refl _) (Nat.le_of_ble_eq_true rfl) rfl (fun r28 sf28 sa28 hR28 => ?_)
      obtain ⟨rfl, hs, ha⟩ := hR28
      rw [hs, ha, sfR_17]
      clear hs ha
      refine C.istore_n dX9_readCond_31 (by decide) rfl ?_
      refine C.aload_n dX9_readCond_32 rfl ?_
      refine C.iload_n dX9_readCond_33 rfl ?_
      refine C.iload_n dX9_readCond_34 rfl ?_
      refine C.mcall hL (m_puts (d := d - 1) (into := pl9) (one := x9) (ks := []) (by omega) hx9.1 (fun j hj => by cases hj) (fun hj => by cases hj) hch0) cw_X9_puts ml_X9_75 im_X9_puts sl_X9_puts dX9_readCond_35 rfl rfl (by omega) (Nat.le_refl _) (Nat.le_refl _) (Nat.le_of_ble_eq_true rfl) rfl (fun r35 sf35 sa35 hR35 => ?_)
      obtain ⟨rfl, hs, ha⟩ := hR35
      rw [hs, ha]
      clear hs ha
      refine (main e).2 [((x9, q9.1, fp9) : QT)] pl9 (pl9 + 1) _ x9 _ _ q9.1 (by omega) hw2 (by simp) ⟨hadd.1, hadd.2, hnd0, ?_, ?_, ⟨q9.1, [], rfl, rfl⟩, ?_, by omega⟩ hr2.symm
      · intro j hj
        rcases List.mem_cons.mp hj with rfl | hj
        · omega
        · simp only [List.flatMap_cons, List.flatMap_nil, List.append_nil] at hj
          have := hr9 j hj; omega
      · rw [ptS_fr 29 pl9 (by simp) (by simp)]
        exact va_up_self (sa1 29) _ _
      · exact (hF9.tr hPl (Nat.le_refl pl) (by omega) (by omega) (Nat.le_refl _)).tr (ptS_Fr (lo := pl) (hi := pl9 + 1) (fun j hj => by cases hj) (by omega) (by omega)) (Nat.le_refl _) (Nat.le_refl _) (Nat.le_refl _) (Nat.le_refl _)
