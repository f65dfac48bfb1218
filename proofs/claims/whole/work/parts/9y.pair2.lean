/-! call by call, on: the tape, letters, counts -/
def Prd (AMp : AT → Prop) (P : AT) : Prop := ∃ PoW : AT, AMp PoW ∧ ∀ r L' f', PoW r L' f' → P r L' f'
theorem SensAt.t32 {sa sa' : SA} {b : Nat} {xs : List Sen} (h : SensAt sa b xs) (hg : ∀ q, q ≠ 32 → q ≠ 33 → q ≠ 34 → sa' q = sa q) : SensAt sa' b xs := fun i x hi =>
  (h i x hi).keep (fun a ha => by rw [hg a (by omega) (by omega) (by omega)]) (fun k _ => by rw [hg 22 (by decide) (by decide) (by decide)]) (fun c _ => by rw [hg 27 (by decide) (by decide) (by decide)]) (fun j _ => by rw [hg 28 (by decide) (by decide) (by decide)])
theorem wrS_at {sa : SA} {r b : Nat} {T : List Int} : wrS sa r b T r = fun j => if b ≤ j ∧ j < b + T.length then T.getD (j - b) 0 else sa r j := by
  funext j
  unfold wrS
  by_cases h : b ≤ j ∧ j < b + T.length
  · rw [if_pos ⟨rfl, h⟩, if_pos h]
  · rw [if_neg (fun q => h q.2), if_neg h]
theorem getD_B {T : List Int} (h : isB T) (j : Nat) : -128 ≤ T.getD j 0 ∧ T.getD j 0 < 128 := by
  rw [List.getD_eq_getElem?_getD]
  cases hj : T[j]? with
  | none => exact ⟨by decide, by decide⟩
  | some v => exact h v (List.mem_of_getElem? hj)
theorem wrS_TB {sa : SA} {b : Nat} {T : List Int} (h : TB sa) (hT : isB T) : TB (wrS sa 32 b T) := fun j => by
  rw [wrS_at]
  by_cases hj : b ≤ j ∧ j < b + T.length
  · simp only [if_pos hj]
    exact getD_B hT _
  · simp only [if_neg hj]
    exact h j
theorem fdL_B (zs : List Int) : isB (fdL zs) := fun z hz => by
  unfold fdL at hz
  obtain ⟨k, -, rfl⟩ := List.mem_map.mp hz
  exact fb_rng _ _
section PAIR2
variable {L : List Nat} {f : Nat → AC} {t : Nat} {z z0 z1 z2 z3 z4 : Int}
theorem pr_letter (ht : t ≤ 512) (h : RI t L f) : Prs (fun d2 mc2 ms2 P => AW yL_letter cL_letter 3 (some .int) [(0, 8, 11, 13)] d2 mc2 ms2 [.ref 0, .ref 35] L f P) (Pst t yX9_letter cX9_letter 3 (some .int) [] Bny) := by
  obtain ⟨c, a, sf, sa, xs, ys, n, hJ, hB, hQ⟩ := h
  have hJ0 := hJ
  obtain ⟨okx, oky⟩ := hJ0.ok
  obtain ⟨e4, e13, e15, po, pn, hI, hpo, hpn⟩ := hJ
  have hQ0 := hQ
  obtain ⟨⟨⟨a1, a2, a3⟩, a4, a5⟩, ⟨b1, b2, b3, b4, b5⟩, b6, ⟨c1, c2⟩, ⟨d1, d2⟩, e1, e2⟩ := hQ
  obtain ⟨h0L, h0f⟩ := hI.o0
  have hxl := e1.1
  have hyl := e2.1
  have hol : po.length = xs.length := by rw [← hpo, List.length_map]
  have hnl : pn.length = ys.length := by rw [← hpn, List.length_map]
  have h13 : sf 13 = 0 ∨ sf 13 = 1 := b6.imp (fun h => h.1) (fun h => h.1)
  have hTK : TK a := fun j => by rw [a4]; exact a5 j
  have M := m_letter (d := 1250) (e := n) (by decide) a2 a3 a5
  cases hq : lettF (sa 32) n 8 [] 0 with
  | inl q =>
    obtain ⟨hRX, hok⟩ := lett_RX a3 hq
    refine ⟨1001, 450, 7500, _, by decide, by decide, by decide, wn_letter (d2 := 1000) (by decide) h0L h0f (p_letter (d := 1000) (e := n) (q := q) (by decide) hI a1 a3 hTK (by rw [a4]; exact hq) hRX.1) (fun r L' f' h => ?_), Pst.nrm (w := (q.1.length : Int)) hI.1.2.1 hB trivial (fun r L' f1 h => ?_)⟩
    · obtain ⟨hr, c', a', hJ', -, -, -, -, -, hF⟩ := h
      exact ⟨⟨_, hr⟩, (hB.fm hI.1.2.1 hF).l35 hJ'.mem⟩
    · obtain ⟨hr, c', a', hJ', k5, k6, k7, k11, ka, hF⟩ := h
      refine ⟨hr, hF, c', a', _, _, 0, hJ', M.imp (fun r sf' sa' hR => ?_)⟩
      rw [hq] at hR
      obtain ⟨r1, ⟨s0, s9, s10, s11, s12, s13, s21, s25⟩, ⟨g1, g2, g3, g4, g5⟩, g6⟩ := hR
      exact ⟨r1, s0, ⟨⟨k11, s21, Nat.zero_le _⟩, by rw [ka, a4, g6], fun j => by rw [g6]; exact a5 j⟩, ⟨k5.trans s25.symm, by omega, by omega, by omega, by omega⟩, Or.inr ⟨s13, by omega⟩, ⟨s9, s10⟩, ⟨g1, g2⟩, hRX, hRX.y⟩
  | inr b =>
    have hbl := lettF_le 8 [] 0 b (Nat.zero_le _) hq
    refine ⟨1001, 450, 7500, _, by decide, by decide, by decide, wx_letter (d2 := 1000) (by decide) h0L h0f (x_letter (d := 1000) (e := n) (b := b) (by decide) hI a1 a3 hTK (by rw [a4]; exact hq) (by omega)) (fun E L' f' h => h.1), fun r L' f' h => ?_⟩
    obtain ⟨E, ⟨rfl, c', a', hJ', k5, k6, k7, k11, ka, hF⟩, rfl⟩ := h
    rw [hpo, hpn] at hJ'
    have hB1 := hB.fm hI.1.2.1 hF
    obtain ⟨g, hg⟩ := hB1.2
    refine ⟨exN eIA, 0, g, sf, sa, rfl, hJ'.mem, hg, (fun h => by rw [exN_IA] at h; omega), by rw [exN_IA]; omega, hB1.1, M.imp (fun r sf' sa' hR => ?_)⟩
    rw [hq] at hR
    obtain ⟨r1, ⟨s0, s9, s10, s11, s12, s13, s21, s25⟩, hG⟩ := hR
    refine ⟨⟨0, r1, (fun _ => rfl), trivial⟩, s0.trans exN_IA.symm, c', a', _, _, xs, ys, 0, hJ'.ov hB1, hB1.to, ⟨⟨k11, s21, Nat.zero_le _⟩, by rw [ka, a4, hG.tape], fun j => by rw [hG.tape]; exact a5 j⟩, ⟨k5.trans s25.symm, by omega, by omega, by omega, by omega⟩, by rw [s13, k6]; exact b6, ⟨s9.trans c1, s10.trans c2⟩, ⟨d1.R (fun x hx => (okx x hx).1) hG (Or.inl (by omega)), d2.R (fun x hx => (oky x hx).1) hG (Or.inl (by omega))⟩, e1, e2⟩
theorem pr_write (ht : t ≤ 512) (h : RI t L f) : Prs (fun d2 mc2 ms2 P => AW yL_write cL_write 3 (some .int) [(0, 8, 11, 19)] d2 mc2 ms2 [.ref 0, .ref 35] L f P) (Pst t yX9_write cX9_write 2 (some .int) [] Bny) := by
  obtain ⟨c, a, sf, sa, xs, ys, n, hJ, hB, hQ⟩ := h
  have hJ0 := hJ
  obtain ⟨okx, oky⟩ := hJ0.ok
  obtain ⟨e4, e13, e15, po, pn, hI, hpo, hpn⟩ := hJ
  have hQ0 := hQ
  obtain ⟨⟨⟨a1, a2, a3⟩, a4, a5⟩, ⟨b1, b2, b3, b4, b5⟩, b6, ⟨c1, c2⟩, ⟨d1, d2⟩, e1, e2⟩ := hQ
  obtain ⟨h0L, h0f⟩ := hI.o0
  have hxl := e1.1
  have hyl := e2.1
  have hol : po.length = xs.length := by rw [← hpo, List.length_map]
  have hnl : pn.length = ys.length := by rw [← hpn, List.length_map]
  have h13 : sf 13 = 0 ∨ sf 13 = 1 := b6.imp (fun h => h.1) (fun h => h.1)
  have hlt := ltT_le oky
  have hm := e2.2.2
  have M := m_write (d := 1250) (by decide) h13 c2 d2 hyl (fun x hx => (oky x hx).1) (by omega)
  rcases b6 with ⟨b60, b61, -⟩ | ⟨b60, b61⟩
  · refine ⟨1001, 1, 6, _, by decide, by decide, by decide, wx_write (d2 := 1000) (by decide) h0L h0f (x_write (d := 1000) (by decide) hI b61) (fun E L' f' h => h.1), Pst.thr (E0 := eIS) hJ0 hB hQ0 trivial (M.imp (fun r sf' sa' hR => ?_))⟩
    rw [exN_IS]
    exact hR.1 b60
  · have h6 : 0 < c 6 ∧ c 6 < 100000 := ⟨b61, by omega⟩
    have hW := p_write (d := 1000) (by decide) hI h6 (by omega) (by rw [hpn]; omega)
    rw [hpn] at hW
    by_cases hlen : (ltT ys).length ≤ 400
    · refine ⟨1001, 0, 0, _, by decide, by decide, by decide, wn_write (d2 := 1000) (by decide) h0L h0f hW (fun r L' f' h => ?_), Pst.nrm (w := ((ltT ys).length : Int)) hI.1.2.1 hB trivial (fun r L' f1 h => ?_)⟩
      · obtain ⟨c', a', hI', hF, hcj, hr⟩ := h
        rw [if_pos hlen] at hr
        exact ⟨⟨_, hr.1⟩, (hB.fm hI.1.2.1 hF).l35 hI'.1.2.1⟩
      · obtain ⟨c', a', hI', hF, hcj, hr⟩ := h
        rw [if_pos hlen] at hr
        obtain ⟨r1, k11, ka, kb⟩ := hr
        refine ⟨r1, hF, c', a', xs, ys, (ltT ys).length, ⟨e4, e13, e15, po, pn, hI', hpo, hpn⟩, M.imp (fun r sf' sa' hR => ?_)⟩
        have hR := hR.2 b60
        rw [if_pos hlen] at hR
        obtain ⟨r2, k2, k3⟩ := hR
        obtain ⟨s1, s2, s3, s4, s5, s6, s7⟩ := k2.q.sj
        have h32 := k3 32 (by decide)
        have hB8 : isB (ltT ys) := ltT_B (fun x hx => ⟨(oky x hx).1, (oky x hx).2.1, (oky x hx).2.2⟩)
        have hSn : ∀ q, q ≠ 32 → q ≠ 33 → q ≠ 34 → sa' q = sa q := fun q x1 x2 x3 => by rw [k3 q x3, wrS_ne x1]
        refine ⟨r2, k2.q.z0, ⟨⟨k11, s6, hlen⟩, ?_, fun j => by rw [h32]; exact wrS_TB a5 hB8 j⟩, ⟨by rw [s7, hcj 5 (by decide) (by decide)]; exact b1, by rw [s3, hcj 6 (by decide) (by decide)]; exact b2, by rw [s4, hcj 7 (by decide) (by decide)]; exact b3, by rw [hcj 6 (by decide) (by decide)]; exact b4, by rw [hcj 6 (by decide) (by decide)]; omega⟩, Or.inr ⟨s5.trans b60, by rw [hcj 6 (by decide) (by decide)]; exact b61⟩, ⟨s1.trans c1, s2.trans c2⟩, ⟨d1.t32 hSn, d2.t32 hSn⟩, e1, e2⟩
        rw [h32, wrS_at]
        funext j
        show a' 2 j = if 0 ≤ j ∧ j < 0 + (ltT ys).length then (ltT ys).getD (j - 0) 0 else sa 32 j
        by_cases hj : j < (ltT ys).length
        · rw [if_pos (by omega), List.getD_eq_getElem?_getD, Nat.sub_zero, List.getElem?_eq_getElem hj]
          exact ka j _ (List.getElem?_eq_getElem hj)
        · rw [if_neg (by omega), kb j (by omega), a4]
    · refine ⟨1001, 0, 0, _, by decide, by decide, by decide, wn_write (d2 := 1000) (by decide) h0L h0f hW (fun r L' f' h => ?_), Pst.nrm (w := -1) hI.1.2.1 hB trivial (fun r L' f1 h => ?_)⟩
      · obtain ⟨c', a', hI', hF, hcj, hr⟩ := h
        rw [if_neg hlen] at hr
        exact ⟨⟨_, hr.1⟩, (hB.fm hI.1.2.1 hF).l35 hI'.1.2.1⟩
      · obtain ⟨c', a', hI', hF, hcj, hr⟩ := h
        rw [if_neg hlen] at hr
        obtain ⟨r1, k11, ka⟩ := hr
        refine ⟨r1, hF, c', a', xs, ys, n, ⟨e4, e13, e15, po, pn, hI', hpo, hpn⟩, M.imp (fun r sf' sa' hR => ?_)⟩
        have hR := hR.2 b60
        rw [if_neg hlen] at hR
        obtain ⟨r2, k2, k3⟩ := hR
        obtain ⟨s1, s2, s3, s4, s5, s6, s7⟩ := k2.q.sj
        have h32 := k3 32 (by decide)
        have hSn : ∀ q, q ≠ 32 → q ≠ 33 → q ≠ 34 → sa' q = sa q := fun q x1 x2 x3 => k3 q x3
        exact ⟨r2, k2.q.z0, ⟨⟨k11.trans a1, s6.trans a2, a3⟩, by rw [ka, a4, h32], fun j => by rw [h32]; exact a5 j⟩, ⟨by rw [s7, hcj 5 (by decide) (by decide)]; exact b1, by rw [s3, hcj 6 (by decide) (by decide)]; exact b2, by rw [s4, hcj 7 (by decide) (by decide)]; exact b3, by rw [hcj 6 (by decide) (by decide)]; exact b4, by rw [hcj 6 (by decide) (by decide)]; omega⟩, Or.inr ⟨s5.trans b60, by rw [hcj 6 (by decide) (by decide)]; exact b61⟩, ⟨s1.trans c1, s2.trans c2⟩, ⟨d1.t32 hSn, d2.t32 hSn⟩, e1, e2⟩
theorem pr_feed (h : RI t L f) : Prd (fun P => AM yX8_feed cX8_feed 6 (some .int) 1000 0 0 [.ref 0, .int (iI z0), .int (iI z1), .int (iI z2), .int (iI z3), .int (iI z4)] L f P) (Pdr t yX9_feed cX9_feed 7 (some .int) [.int (iI z0), .int (iI z1), .int (iI z2), .int (iI z3), .int (iI z4)]) := by
  obtain ⟨c, a, sf, sa, xs, ys, n, hJ, hB, hQ⟩ := h
  have hJ0 := hJ
  obtain ⟨okx, oky⟩ := hJ0.ok
  obtain ⟨e4, e13, e15, po, pn, hI, hpo, hpn⟩ := hJ
  have hQ0 := hQ
  obtain ⟨⟨⟨a1, a2, a3⟩, a4, a5⟩, ⟨b1, b2, b3, b4, b5⟩, b6, ⟨c1, c2⟩, ⟨d1, d2⟩, e1, e2⟩ := hQ
  obtain ⟨h0L, h0f⟩ := hI.o0
  have hxl := e1.1
  have hyl := e2.1
  have hol : po.length = xs.length := by rw [← hpo, List.length_map]
  have hnl : pn.length = ys.length := by rw [← hpn, List.length_map]
  have h13 : sf 13 = 0 ∨ sf 13 = 1 := b6.imp (fun h => h.1) (fun h => h.1)
  refine ⟨_, (k8_feed (d := 1000) (g := f) (z0 := z0) (z1 := z1) (z2 := z2) (z3 := z3) (z4 := z4) (by decide) hI.1.2.1 a1 a3).at hI.1.1, ?_⟩
  have M := m_feed (d := 1250) (sa := sa) (z0 := z0) (z1 := z1) (z2 := z2) (z3 := z3) (z4 := z4) a2 a3
  refine Pdr.of (w := if n + 20 ≤ 400 then (n : Int) + 20 else -1) hI.1.2.1 hB (fun r L' f1 h => ?_)
  obtain ⟨c', a', ⟨r1, k1, k2⟩, rfl, rfl⟩ := h
  by_cases hn : n + 20 ≤ 400
  · rw [if_pos hn] at k1 k2
    have hGk : Gk c c' a a' := ⟨fun j _ _ _ h _ _ => by rw [k1, va_up_ne _ _ h], fun b h _ => by rw [k2, wrS_ne h]⟩
    obtain ⟨hI', hF⟩ := hI.gk hGk
    refine ⟨r1, hF, c', a', xs, ys, n + 20, ⟨e4, e13, e15, po, pn, hI', hpo, hpn⟩, M.imp (fun r sf' sa' hR => ?_)⟩
    obtain ⟨r2, k3, k4⟩ := hR
    rw [if_pos hn] at k3
    have k4 : ∀ q, q ≠ 33 → sa' q = wrS sa 32 n (fdL [z0, z1, z2, z3, z4]) q := fun q hq => by rw [k4 q hq, if_pos hn]
    have h32 := k4 32 (by decide)
    have hSn : ∀ q, q ≠ 32 → q ≠ 33 → q ≠ 34 → sa' q = sa q := fun q x1 x2 x3 => by rw [k4 q x2, wrS_ne x1]
    refine ⟨r2, ⟨⟨?_, ?_, hn⟩, ?_, fun j => by rw [h32]; exact wrS_TB a5 (fdL_B _) j⟩, ?_, ?_, ?_, ⟨d1.t32 hSn, d2.t32 hSn⟩, e1, e2⟩
    · rw [k1]; exact (va_up_self _ _ _).trans (by omega)
    · rw [k3]; exact (va_up_self _ _ _).trans (by omega)
    · rw [k2, h32, wrS_at, wrS_at, a4]
    · rw [k1, k3]
      exact ⟨b1, b2, b3, b4, (show c 6 ≤ ((t + 1 : Nat) : Int) by omega)⟩
    · rw [k1, k3]
      exact b6
    · rw [k3]
      exact ⟨c1, c2⟩
  · rw [if_neg hn] at k1 k2
    subst k1
    subst k2
    obtain ⟨hI', hF⟩ := hI.gk (c' := c') (a' := a') ⟨fun _ _ _ _ _ _ _ => rfl, fun _ _ _ => rfl⟩
    refine ⟨r1, hF, c', a', xs, ys, n, ⟨e4, e13, e15, po, pn, hI', hpo, hpn⟩, M.imp (fun r sf' sa' hR => ?_)⟩
    obtain ⟨r2, k3, k4⟩ := hR
    rw [if_neg hn] at k3
    have k4 : ∀ q, q ≠ 33 → sa' q = sa q := fun q hq => by rw [k4 q hq, if_neg hn]
    have h32 := k4 32 (by decide)
    have hSn : ∀ q, q ≠ 32 → q ≠ 33 → q ≠ 34 → sa' q = sa q := fun q x1 x2 x3 => k4 q x2
    refine ⟨r2, ⟨⟨a1, ?_, a3⟩, a4.trans h32.symm, fun j => by rw [h32]; exact a5 j⟩, ?_, ?_, ?_, ⟨d1.t32 hSn, d2.t32 hSn⟩, e1, e2⟩
    · rw [k3]; exact a2
    · rw [k3]
      exact ⟨b1, b2, b3, b4, (show c' 6 ≤ ((t + 1 : Nat) : Int) by omega)⟩
    · rw [k3]
      exact b6
    · rw [k3]
      exact ⟨c1, c2⟩
theorem pr_end (hz : i3 z) (h : RI t L f) : Prd (fun P => AM yX8_end cX8_end 2 (some .boolean) 1000 0 0 [.ref 0, .int (iI z)] L f P) (Pdr t yX9_end cX9_end 2 (some .boolean) [.int (iI z)]) := by
  obtain ⟨c, a, sf, sa, xs, ys, n, hJ, hB, hQ⟩ := h
  have hJ0 := hJ
  obtain ⟨okx, oky⟩ := hJ0.ok
  obtain ⟨e4, e13, e15, po, pn, hI, hpo, hpn⟩ := hJ
  have hQ0 := hQ
  obtain ⟨⟨⟨a1, a2, a3⟩, a4, a5⟩, ⟨b1, b2, b3, b4, b5⟩, b6, ⟨c1, c2⟩, ⟨d1, d2⟩, e1, e2⟩ := hQ
  obtain ⟨h0L, h0f⟩ := hI.o0
  have hxl := e1.1
  have hyl := e2.1
  have hol : po.length = xs.length := by rw [← hpo, List.length_map]
  have hnl : pn.length = ys.length := by rw [← hpn, List.length_map]
  have h13 : sf 13 = 0 ∨ sf 13 = 1 := b6.imp (fun h => h.1) (fun h => h.1)
  refine ⟨_, (k8_end (d := 1000) (g := f) (z := z) (by decide) hI.1.2.1 hz a1 a3).at hI.1.1, ?_⟩
  have M := m_end (d := 1250) (sa := sa) (z := z) hz a2 a3
  refine Pdr.of (w := b2i (decide (0 ≤ z) && decide (z ≤ n))) hI.1.2.1 hB (fun r L' f1 h => ?_)
  obtain ⟨c', a', ⟨r1, k1, k2⟩, rfl, rfl⟩ := h
  subst k2
  by_cases hn : 0 ≤ z ∧ z ≤ n
  · rw [if_pos hn] at k1
    have hGk : Gk c c' a' a' := ⟨fun j _ _ _ h _ _ => by rw [k1, va_up_ne _ _ h], fun b h _ => rfl⟩
    obtain ⟨hI', hF⟩ := hI.gk hGk
    refine ⟨r1, hF, c', a', xs, ys, z.toNat, ⟨e4, e13, e15, po, pn, hI', hpo, hpn⟩, M.imp (fun r sf' sa' hR => ?_)⟩
    obtain ⟨r2, k3, rfl⟩ := hR
    rw [if_pos hn] at k3
    refine ⟨r2, ⟨⟨?_, ?_, by omega⟩, a4, a5⟩, ?_, ?_, ?_, ⟨d1, d2⟩, e1, e2⟩
    · rw [k1]; exact (va_up_self _ _ _).trans (by omega)
    · rw [k3]; exact (va_up_self _ _ _).trans (by omega)
    · rw [k1, k3]
      exact ⟨b1, b2, b3, b4, (show c 6 ≤ ((t + 1 : Nat) : Int) by omega)⟩
    · rw [k1, k3]
      exact b6
    · rw [k3]
      exact ⟨c1, c2⟩
  · rw [if_neg hn] at k1
    subst k1
    obtain ⟨hI', hF⟩ := hI.gk (c' := c') (a' := a') ⟨fun _ _ _ _ _ _ _ => rfl, fun _ _ _ => rfl⟩
    refine ⟨r1, hF, c', a', xs, ys, n, ⟨e4, e13, e15, po, pn, hI', hpo, hpn⟩, M.imp (fun r sf' sa' hR => ?_)⟩
    obtain ⟨r2, k3, rfl⟩ := hR
    rw [if_neg hn] at k3
    rw [k3]
    exact ⟨r2, hQ0.keep (Sj.up0 _) Go.rf⟩
theorem pr_fault (h : RI t L f) : Prd (fun P => AM yX8_fault cX8_fault 1 (some .int) 1000 0 0 [.ref 0] L f P) (Pdr t yX9_fault cX9_fault 1 (some .int) []) := by
  obtain ⟨c, a, sf, sa, xs, ys, n, hJ, hB, hQ⟩ := h
  have hJ0 := hJ
  obtain ⟨okx, oky⟩ := hJ0.ok
  obtain ⟨e4, e13, e15, po, pn, hI, hpo, hpn⟩ := hJ
  have hQ0 := hQ
  obtain ⟨⟨⟨a1, a2, a3⟩, a4, a5⟩, ⟨b1, b2, b3, b4, b5⟩, b6, ⟨c1, c2⟩, ⟨d1, d2⟩, e1, e2⟩ := hQ
  obtain ⟨h0L, h0f⟩ := hI.o0
  have hxl := e1.1
  have hyl := e2.1
  have hol : po.length = xs.length := by rw [← hpo, List.length_map]
  have hnl : pn.length = ys.length := by rw [← hpn, List.length_map]
  have h13 : sf 13 = 0 ∨ sf 13 = 1 := b6.imp (fun h => h.1) (fun h => h.1)
  refine ⟨_, (k8_fault (d := 1000) (g := f) hI.1.2.1).at hI.1.1, ?_⟩
  refine Pdr.of (w := c 5) hI.1.2.1 hB (fun r L' f1 h => ?_)
  obtain ⟨c', a', ⟨r1, rfl, rfl⟩, rfl, rfl⟩ := h
  obtain ⟨hI', hF⟩ := hI.gk (c' := c') (a' := a') ⟨fun _ _ _ _ _ _ _ => rfl, fun _ _ _ => rfl⟩
  refine ⟨r1, hF, c', a', xs, ys, n, ⟨e4, e13, e15, po, pn, hI', hpo, hpn⟩, (m_fault (d := 1250)).imp (fun r sf' sa' hR => ?_)⟩
  obtain ⟨r2, rfl, rfl⟩ := hR
  exact ⟨by rw [r2, b1], hQ0.keep (Sj.up0 _) Go.rf⟩
theorem pr_taped (hz : i3 z) (h : RI t L f) : Prd (fun P => AM yX8_taped cX8_taped 2 (some .int) 1000 0 0 [.ref 0, .int (iI z)] L f P) (Pdr t yX9_taped cX9_taped 2 (some .int) [.int (iI z)]) := by
  obtain ⟨c, a, sf, sa, xs, ys, n, hJ, hB, hQ⟩ := h
  have hJ0 := hJ
  obtain ⟨okx, oky⟩ := hJ0.ok
  obtain ⟨e4, e13, e15, po, pn, hI, hpo, hpn⟩ := hJ
  have hQ0 := hQ
  obtain ⟨⟨⟨a1, a2, a3⟩, a4, a5⟩, ⟨b1, b2, b3, b4, b5⟩, b6, ⟨c1, c2⟩, ⟨d1, d2⟩, e1, e2⟩ := hQ
  obtain ⟨h0L, h0f⟩ := hI.o0
  have hxl := e1.1
  have hyl := e2.1
  have hol : po.length = xs.length := by rw [← hpo, List.length_map]
  have hnl : pn.length = ys.length := by rw [← hpn, List.length_map]
  have h13 : sf 13 = 0 ∨ sf 13 = 1 := b6.imp (fun h => h.1) (fun h => h.1)
  refine ⟨_, (k8_taped (d := 1000) (g := f) (z := z) (by decide) hI.1.2.1 hz a1 a3).at hI.1.1, ?_⟩
  refine Pdr.of (w := tpV (a 2) n z) hI.1.2.1 hB (fun r L' f1 h => ?_)
  obtain ⟨c', a', ⟨r1, rfl, rfl⟩, rfl, rfl⟩ := h
  obtain ⟨hI', hF⟩ := hI.gk (c' := c') (a' := a') ⟨fun _ _ _ _ _ _ _ => rfl, fun _ _ _ => rfl⟩
  refine ⟨r1, hF, c', a', xs, ys, n, ⟨e4, e13, e15, po, pn, hI', hpo, hpn⟩, (m_taped (d := 1250) (by decide) hz a2 a3).imp (fun r sf' sa' hR => ?_)⟩
  obtain ⟨r2, rfl, rfl⟩ := hR
  exact ⟨by rw [r2, a4], hQ0.keep (Sj.up0 _) Go.rf⟩
theorem pr_count (hz : i3 z) (h : RI t L f) : Prd (fun P => AM yX8_count cX8_count 2 (some .int) 1000 0 0 [.ref 0, .int (iI z)] L f P) (Pdr t yX9_count cX9_count 2 (some .int) [.int (iI z)]) := by
  obtain ⟨c, a, sf, sa, xs, ys, n, hJ, hB, hQ⟩ := h
  have hJ0 := hJ
  obtain ⟨okx, oky⟩ := hJ0.ok
  obtain ⟨e4, e13, e15, po, pn, hI, hpo, hpn⟩ := hJ
  have hQ0 := hQ
  obtain ⟨⟨⟨a1, a2, a3⟩, a4, a5⟩, ⟨b1, b2, b3, b4, b5⟩, b6, ⟨c1, c2⟩, ⟨d1, d2⟩, e1, e2⟩ := hQ
  obtain ⟨h0L, h0f⟩ := hI.o0
  have hxl := e1.1
  have hyl := e2.1
  have hol : po.length = xs.length := by rw [← hpo, List.length_map]
  have hnl : pn.length = ys.length := by rw [← hpn, List.length_map]
  have h13 : sf 13 = 0 ∨ sf 13 = 1 := b6.imp (fun h => h.1) (fun h => h.1)
  refine ⟨_, p_count (d := 1000) (z := z) (by decide) hz hI, ?_⟩
  refine Pdr.of (w := ctK c po.length pn.length z) hI.1.2.1 hB (fun r L' f1 h => ?_)
  obtain ⟨r1, rfl, rfl⟩ := h
  refine ⟨r1, FM.rf, c, a, xs, ys, n, hJ0, (m_count (d := 1250) hz h13).imp (fun r sf' sa' hR => ?_)⟩
  obtain ⟨r2, rfl, rfl⟩ := hR
  refine ⟨?_, hQ0.keep (Sj.up0 _) Go.rf⟩
  have e : ctV sf z = ctK c po.length pn.length z := by
    unfold ctV ctK
    rw [hol, hnl, c1, c2, a1, a2, b2, b3]
    rcases b6 with ⟨b60, -, rfl, rfl⟩ | ⟨b60, -⟩
    · simp only [if_pos b60]
      rfl
    · simp only [if_neg (show ¬ sf 13 = 0 by omega)]
  rw [r2, e]
end PAIR2
