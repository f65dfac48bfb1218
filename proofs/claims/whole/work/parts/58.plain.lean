def wp (k : Nat) : Bool := decide (k % 2 = 1)
def wq (k : Nat) : Bool := decide (k / 2 % 2 = 1)
def we (k : Nat) : Bool := decide (k / 4 % 2 = 1)
theorem wyN_k {k : Nat} (h : k < 8) : wyN (wp k) (wq k) (we k) = k := by
  rcases (show k = 0 ∨ k = 1 ∨ k = 2 ∨ k = 3 ∨ k = 4 ∨ k = 5 ∨ k = 6 ∨ k = 7 by omega) with rfl | rfl | rfl | rfl | rfl | rfl | rfl | rfl <;> rfl
def okK (k : Nat) (x : Sen) : Bool := wyOk (wp k) (wq k) (we k) x
def vK (k : Nat) (x : Sen) : Int := wyV (wp k) (wq k) (we k) x
def kK (k : Nat) : Int := kkB (wp k) (wq k) (we k)
/-- the best of the ways below k, and its cost -/
def bw (x : Sen) : Nat → Int × Int
  | 0 => (-1, 0)
  | k + 1 => if 0 ≤ vK k x ∧ ((bw x k).1 < 0 ∨ vK k x < (bw x k).2 ∨ (vK k x = (bw x k).2 ∧ kK k < kK (bw x k).1.toNat)) then ((k : Int), vK k x) else bw x k
theorem vK_ok {k : Nat} {x : Sen} (h : okK k x = true) : 0 ≤ vK k x := by
  unfold vK wyV
  rw [show wyOk (wp k) (wq k) (we k) x = true from h, if_pos rfl]
  omega
theorem vK_no {k : Nat} {x : Sen} (h : okK k x = false) : vK k x = -1 := by
  unfold vK wyV
  rw [show wyOk (wp k) (wq k) (we k) x = false from h]
  rfl
theorem kK_rng (k : Nat) : 0 ≤ kK k ∧ kK k < 16 := by
  unfold kK kkB
  have c1 := b2i_rng (wp k)
  have c2 := b2i_rng (wq k)
  have c3 := b2i_rng (we k)
  omega
theorem bw_spec (x : Sen) : ∀ k, ((bw x k).1 = -1 ∧ ∀ i, i < k → okK i x = false) ∨ ∃ n : Nat, n < k ∧ (bw x k).1 = n ∧ okK n x = true ∧ (bw x k).2 = vK n x ∧ ∀ i, i < k → okK i x = true → 16 * vK n x + kK n ≤ 16 * vK i x + kK i := by
  intro k
  induction k with
  | zero => exact Or.inl ⟨rfl, fun i h => absurd h (by omega)⟩
  | succ k ih =>
    have hk := kK_rng k
    unfold bw
    cases hok : okK k x with
    | false =>
      have hv := vK_no hok
      rw [if_neg (by omega)]
      rcases ih with ⟨h1, h2⟩ | ⟨n, h1, h2, h3, h4, h5⟩
      · refine Or.inl ⟨h1, fun i hi => ?_⟩
        by_cases hik : i = k
        · rw [hik]; exact hok
        · exact h2 i (by omega)
      · refine Or.inr ⟨n, by omega, h2, h3, h4, fun i hi ho => ?_⟩
        by_cases hik : i = k
        · rw [hik, hok] at ho; cases ho
        · exact h5 i (by omega) ho
    | true =>
      have hv := vK_ok hok
      rcases ih with ⟨h1, h2⟩ | ⟨n, h1, h2, h3, h4, h5⟩
      · rw [if_pos ⟨hv, Or.inl (by omega)⟩]
        refine Or.inr ⟨k, by omega, rfl, hok, rfl, fun i hi ho => ?_⟩
        by_cases hik : i = k
        · rw [hik]; omega
        · rw [h2 i (by omega)] at ho; cases ho
      · rw [h2, h4, Int.toNat_natCast]
        have hn := kK_rng n
        by_cases hlt : 16 * vK k x + kK k < 16 * vK n x + kK n
        · rw [if_pos ⟨hv, by omega⟩]
          refine Or.inr ⟨k, by omega, rfl, hok, rfl, fun i hi ho => ?_⟩
          by_cases hik : i = k
          · rw [hik]; omega
          · have := h5 i (by omega) ho; omega
        · rw [if_neg (by omega)]
          refine Or.inr ⟨n, by omega, h2, h3, h4, fun i hi ho => ?_⟩
          by_cases hik : i = k
          · rw [hik]; omega
          · exact h5 i (by omega) ho
def bsW (x : Sen) : Nat := (bw x 8).1.toNat
theorem bsW_spec (x : Sen) : bsW x < 8 ∧ (bw x 8).1 = bsW x ∧ okK (bsW x) x = true ∧ ∀ i, i < 8 → okK i x = true → 16 * vK (bsW x) x + kK (bsW x) ≤ 16 * vK i x + kK i := by
  rcases bw_spec x 8 with ⟨h1, h2⟩ | ⟨n, h1, h2, h3, h4, h5⟩
  · exact absurd (h2 0 (by omega)) (by rw [show okK 0 x = true from rfl]; decide)
  · have : bsW x = n := by unfold bsW; rw [h2, Int.toNat_natCast]
    rw [this]
    exact ⟨h1, h2, h3, h5⟩
/-- what the plainest way makes of a sentence -/
def plL (x : Sen) : List Sen := wyL (wp (bsW x)) (wq (bsW x)) (we (bsW x)) x
theorem plL_ok {x : Sen} (hx : SOk x) : ∀ c ∈ plL x, SOk c := wyL_ok hx (bsW_spec x).2.2.1
theorem wyL_len {p t e : Bool} {x : Sen} (hx : SOk x) : 1 ≤ (wyL p t e x).length ∧ (wyL p t e x).length ≤ 3 := by
  unfold wyL
  rw [List.length_map]
  exact wyB_len hx
theorem csL_le {sa : SA} {b : Nat} {xs : List Sen} (h : SensAt sa b xs) (hx : ∀ x ∈ xs, SOk x) : csL xs ≤ 12000 * xs.length := by
  have key : ∀ (ys : List Sen), (∀ y ∈ ys, csS y ≤ 12000) → csL ys ≤ 12000 * ys.length := by
    intro ys
    induction ys with
    | nil => intro _; exact Nat.le_refl _
    | cons y ys ih =>
      intro hy
      have h1 := hy y List.mem_cons_self
      have h2 := ih (fun z hz => hy z (List.mem_cons_of_mem _ hz))
      simp only [csL, List.map_cons, List.sum_cons, List.length_cons] at h2 ⊢
      omega
  refine key xs (fun y hy => ?_)
  obtain ⟨i, hi⟩ := List.getElem?_of_mem hy
  exact csS_le (h i y hi) (hx y hy)
theorem GbQ.wide {lo hi lo2 hi2 : Nat} {sa sa' : SA} (h : GbQ lo hi sa sa') (h1 : lo2 ≤ lo) (h2 : hi ≤ hi2) : GbQ lo2 hi2 sa sa' := fun a j x0 x1 x2 x3 x4 x5 x6 x7 => h a j x0 x1 x2 x3 (by omega) (by omega) (by omega) (by omega)
theorem flat_len {xs : List Sen} (h : ∀ x ∈ xs, SOk x) : (xs.flatMap plL).length ≤ 3 * xs.length := by
  induction xs with
  | nil => exact Nat.le_refl _
  | cons x xs ih =>
    rw [List.flatMap_cons, List.length_append, List.length_cons]
    have h1 := (wyL_len (p := wp (bsW x)) (t := wq (bsW x)) (e := we (bsW x)) (h x List.mem_cons_self)).2
    have h2 := ih (fun y hy => h y (List.mem_cons_of_mem _ hy))
    have h3 : (plL x).length ≤ 3 := h1
    omega
set_option maxRecDepth 20000 in
set_option maxHeartbeats 2000000 in
theorem m_plainest {d : Nat} {xs : List Sen} {sf : SF} {sa : SA} (hd : 816 ≤ d) (h13 : sf 13 = 0 ∨ sf 13 = 1) (h9 : sf 9 = xs.length) (hx : SensAt sa 0 xs) (lx : xs.length ≤ 8) (okx : ∀ x ∈ xs, SOk x) (hez : ∀ x ∈ xs, (cdO (ezO x.2.2.1 x.2.2.2)).length ≤ 400) (hroom : ∀ x ∈ xs, ∀ p t e, wyOk p t e x = true → ∀ c ∈ wyL p t e x, (snT false c).length + 4 ≤ 9000) : MM yX9_plainest cX9_plainest 6 (some .int) d [] sf sa (fun r sf' sa' => (sf 13 = 0 → r = some (.int (iI 0)) ∧ sf' = va_up sf 0 1 ∧ sa' = sa) ∧ (sf 13 = 1 → r = some (.int (iI (csL (xs.flatMap plL)))) ∧ Gq (va_up (va_up sf 0 0) 10 (xs.flatMap plL).length) sf' ∧ SensAt sa' 24 (xs.flatMap plL) ∧ GbQ 24 75 sa sa')) := by
  rcases h13 with h13 | h13
  · have hT := m_throwsIf (d := d - 1) (sf := va_up sf 0 0) (sa := sa) (b := 1) (z := 1) (Or.inr rfl)
    rw [if_neg (by decide)] at hT
    refine MM.of2 (by decide +kernel) rfl (Nat.le_of_ble_eq_true rfl) (fun L g hL X C => ?_)
    refine C.aload_n dX9_plainest_0 rfl ?_
    refine C.ic dX9_plainest_1 ?_
    refine C.mput hL pf_X9_59 dX9_plainest_2 (by decide) rfl ?_
    refine C.aload_n dX9_plainest_5 rfl ?_
    refine C.aload_n dX9_plainest_6 rfl ?_
    refine C.mget hL gf_X9_219 dX9_plainest_7 rfl ?_
    refine C.topI (b := 0) h13 ?_
    refine C.if_neI (tgt := 17) dX9_plainest_10 (by decide) (by omega) (fun hc10 => absurd hc10 (fun h => h rfl)) (fun hc10 => ?_)
    refine C.ic dX9_plainest_13 ?_
    refine C.goto (tgt := 18) dX9_plainest_14 (by decide) ?_
    refine C.ic dX9_plainest_18 ?_
    refine C.mcall hL (hT) cw_X9_throwsIf ml_X9_209 im_X9_throwsIf sl_X9_throwsIf dX9_plainest_19 rfl rfl (by omega) (Nat.le_refl _) (Nat.le_refl _) (Nat.le_of_ble_eq_true rfl) rfl (fun r19 sf19 sa19 hR19 => ?_)
    obtain ⟨rfl, hs, ha⟩ := hR19
    rw [hs, ha]
    clear hs ha
    refine C.if_eqI (tgt := 27) dX9_plainest_22 (by decide) (by decide) (fun hc22 => absurd hc22 (by decide)) (fun hc22 => ?_)
    refine C.ic dX9_plainest_25 ?_
    refine C.retI rfl (by first | rfl | (exact (iI_bool (by first | exact Or.inl rfl | exact Or.inr rfl | assumption)).1)) dX9_plainest_26 (Nat.le_refl _) (Nat.le_refl _) ⟨_, _, ?_, rfl, rfl⟩
    refine ⟨fun _ => ⟨rfl, up00, rfl⟩, fun h => absurd (h13.symm.trans h) (by decide)⟩
  · have hT := m_throwsIf (d := d - 1) (sf := va_up sf 0 0) (sa := sa) (b := 0) (z := 1) (Or.inl rfl)
    rw [if_pos rfl] at hT
    refine MM.of2 (by decide +kernel) rfl (Nat.le_of_ble_eq_true rfl) (fun L g hL X C => ?_)
    have okA : ∀ zs : List Sen, (∀ x ∈ zs, x ∈ xs) → ∀ c ∈ zs.flatMap plL, SOk c ∧ (snT false c).length + 4 ≤ 9000 := fun zs hz c hc => by
      obtain ⟨x, h1, h2⟩ := List.mem_flatMap.mp hc
      exact ⟨plL_ok (okx x (hz x h1)) c h2, hroom x (hz x h1) _ _ _ (bsW_spec x).2.2.1 c h2⟩
    have outer : ∀ (m s : Nat) (sfc : SF) (sac : SA), s + m = xs.length → Gq (va_up (va_up sf 0 0) 10 ((xs.take s).flatMap plL).length) sfc → SensAt sac 24 ((xs.take s).flatMap plL) → GbQ 24 75 sa sac → ∀ v2 v3 v4 v5, X 0 0 L (ov sfc sac g) 34 [some (.ref 20), some (.int (iI s)), v2, v3, v4, v5] [] := by
      intro m
      induction m with
      | zero =>
        intro s sfc sac hs hg hS hq v2 v3 v4 v5
        rw [List.take_of_length_le (by omega)] at hg hS
        have h9' : sfc 9 = xs.length := by rw [hg 9 (by decide) (by decide) (by decide) (by decide) (by decide) (by decide) (by decide) (by decide) (by decide) (by decide)]; exact h9
        have h10' : sfc 10 = (xs.flatMap plL).length := hg 10 (by decide) (by decide) (by decide) (by decide) (by decide) (by decide) (by decide) (by decide) (by decide) (by decide)
        have hfl := flat_len okx
        have hM := m_costOfAll (d := d - 1) (b := 24) (sf := sfc) (by omega) (by omega) hS (okA xs (fun _ h => h))
        refine C.iload_n dX9_plainest_34 rfl ?_
        refine C.ic dX9_plainest_35 ?_
        refine C.aload_n dX9_plainest_36 rfl ?_
        refine C.mget hL gf_X9_216 dX9_plainest_37 rfl ?_
        refine C.topI (b := (xs.length : Int)) h9' ?_
        refine C.iaddI dX9_plainest_40 ?_
        refine C.icmp_geI (tgt := 173) dX9_plainest_41 (by decide) (by omega) (by omega) (fun hc41 => ?_) (fun hc41 => absurd hc41 (by omega))
        refine C.aload_n dX9_plainest_173 rfl ?_
        refine C.bi dX9_plainest_174 (by decide) ?_
        refine C.aload_n dX9_plainest_176 rfl ?_
        refine C.mget hL gf_X9_232 dX9_plainest_177 rfl ?_
        refine C.topI (b := ((xs.flatMap plL).length : Int)) h10' ?_
        refine C.mcall hL (hM) cw_X9_costOfAll ml_X9_289 im_X9_costOfAll sl_X9_costOfAll dX9_plainest_180 rfl rfl (by omega) (Nat.le_refl _) (Nat.le_refl _) (Nat.le_of_ble_eq_true rfl) rfl (fun r180 sf180 sa180 hR180 => ?_)
        obtain ⟨rfl, hg1, hg2⟩ := hR180
        refine C.retI rfl (by first | rfl | (exact (iI_bool (by first | exact Or.inl rfl | exact Or.inr rfl | assumption)).1)) dX9_plainest_183 (Nat.le_refl _) (Nat.le_refl _) ⟨_, _, ?_, rfl, rfl⟩
        exact ⟨fun h => absurd (h13.symm.trans h) (by decide), fun _ => ⟨rfl, hg.tr hg1.q, hS.Go hg2, hq.tr hg2.Q⟩⟩
      | succ m ih =>
        intro s sfc sac hs hg hS hq v2 v3 v4 v5
        have hsl : s < xs.length := by omega
        have hxi : xs[s]? = some xs[s] := List.getElem?_eq_getElem hsl
        have htk : xs.take (s + 1) = xs.take s ++ [xs[s]] := List.take_succ_eq_append_getElem hsl
        generalize xs[s] = x at hxi htk
        have hxm := List.mem_of_getElem? hxi
        have hxo := okx x hxm
        generalize hacc : (xs.take s).flatMap plL = acc at hg hS
        have hacl : acc.length ≤ 3 * s := by
          rw [← hacc]
          have := flat_len (xs := xs.take s) (fun y hy => okx y (List.mem_of_mem_take hy))
          rw [List.length_take] at this
          omega
        have okacc : ∀ c ∈ acc, SOk c := fun c hc => by
          rw [← hacc] at hc
          exact (okA _ (fun y hy => List.mem_of_mem_take hy) c hc).1
        obtain ⟨w1, w2, w3, w4⟩ := bsW_spec x
        have hll := wyL_len (p := wp (bsW x)) (t := wq (bsW x)) (e := we (bsW x)) hxo
        have h9' : sfc 9 = xs.length := by rw [hg 9 (by decide) (by decide) (by decide) (by decide) (by decide) (by decide) (by decide) (by decide) (by decide) (by decide)]; exact h9
        have hxA : ∀ sac2, GbQ 24 75 sa sac2 → SenAt sac2 s x := fun sac2 h => by
          have := (hx.Q okx h (Or.inl (by omega))) s x hxi
          rw [Nat.zero_add] at this
          exact this
        have cpl : ∀ (m2 k : Nat) (sf2 : SF) (sa2 : SA), k + m2 = (plL x).length → Gq (va_up (va_up sf 0 0) 10 acc.length) sf2 → sf2 32 = (plL x).length → GbQ 24 75 sa sa2 → SensAt sa2 24 acc → SensAt sa2 72 (plL x) → (∀ i c, i < k → (plL x)[i]? = some c → SenAt sa2 (24 + acc.length + i) c) → ∀ v2 v3 v4 : Int32, X 0 0 L (ov sf2 sa2 g) 120 [some (.ref 20), some (.int (iI s)), some (.int v2), some (.int v3), some (.int v4), some (.int (iI k))] [] := by
          have hll2 : (plL x).length ≤ 3 := hll.2
          intro m2
          induction m2 with
          | zero =>
            intro k sf2 sa2 hk g2 h32 q2 a1 a2 a3 v2 v3 v4
            have h10 : sf2 10 = acc.length := g2 10 (by decide) (by decide) (by decide) (by decide) (by decide) (by decide) (by decide) (by decide) (by decide) (by decide)
            have nx := ih (s + 1) (va_up sf2 10 ((acc.length : Int) + (plL x).length)) sa2 (by omega) (by
              rw [htk, List.flatMap_append, hacc, List.flatMap_singleton]
              intro j x1 x2 x3 x4 x5 x6 x7 x8 x9 x10
              by_cases hj : j = 10
              · subst hj
                rw [va_up_self, va_up_self, List.length_append]
                omega
              · rw [va_up_ne _ _ hj, va_up_ne _ _ hj, g2 j x1 x2 x3 x4 x5 x6 x7 x8 x9 x10, va_up_ne _ _ hj]) (by
              rw [htk, List.flatMap_append, hacc, List.flatMap_singleton]
              intro i c hi
              by_cases hil : i < acc.length
              · rw [List.getElem?_append_left hil] at hi
                exact a1 i c hi
              · rw [List.getElem?_append_right (by omega)] at hi
                have := a3 (i - acc.length) c (by have := (List.getElem?_eq_some_iff.mp hi).1; omega) hi
                rw [show 24 + acc.length + (i - acc.length) = 24 + i by omega] at this
                exact this) q2
            refine C.iload dX9_plainest_120 rfl ?_
            refine C.aload_n dX9_plainest_122 rfl ?_
            refine C.mget hL gf_X9_316 dX9_plainest_123 rfl ?_
            refine C.topI (b := ((plL x).length : Int)) h32 ?_
            refine C.icmp_geI (tgt := 154) dX9_plainest_126 (by decide) (by omega) (by omega) (fun hc126 => ?_) (fun hc126 => absurd hc126 (by omega))
            refine C.aload_n dX9_plainest_154 rfl ?_
            refine C.dup dX9_plainest_155 rfl ?_
            refine C.mget hL gf_X9_232 dX9_plainest_156 rfl ?_
            refine C.topI (b := (acc.length : Int)) h10 ?_
            refine C.aload_n dX9_plainest_159 rfl ?_
            refine C.mget hL gf_X9_316 dX9_plainest_160 rfl ?_
            refine C.topI (b := ((plL x).length : Int)) h32 ?_
            refine C.iaddI dX9_plainest_163 ?_
            refine C.mput hL pf_X9_232 dX9_plainest_164 (by decide) rfl ?_
            refine C.iincI dX9_plainest_167 rfl (by decide) rfl ?_
            refine C.goto (tgt := 34) dX9_plainest_170 (by decide) ?_
            exact nx _ _ _ _
          | succ m2 ih2 =>
            intro k sf2 sa2 hk g2 h32 q2 a1 a2 a3 v2 v3 v4
            have h10 : sf2 10 = acc.length := g2 10 (by decide) (by decide) (by decide) (by decide) (by decide) (by decide) (by decide) (by decide) (by decide) (by decide)
            have hkl : k < (plL x).length := by omega
            have hck : (plL x)[k]? = some (plL x)[k] := List.getElem?_eq_getElem hkl
            generalize (plL x)[k] = c at hck
            have hll2 : (plL x).length ≤ 3 := hll.2
            have hM := m_copiesS (d := d - 1) (sf := sf2) (fr := 72 + k) (to := 24 + acc.length + k) (by omega) (by omega) (a2 k c hck) (plL_ok hxo c (List.mem_of_getElem? hck))
            refine C.iload dX9_plainest_120 rfl ?_
            refine C.aload_n dX9_plainest_122 rfl ?_
            refine C.mget hL gf_X9_316 dX9_plainest_123 rfl ?_
            refine C.topI (b := ((plL x).length : Int)) h32 ?_
            refine C.icmp_geI (tgt := 154) dX9_plainest_126 (by decide) (by omega) (by omega) (fun hc126 => absurd hc126 (by omega)) (fun hc126 => ?_)
            refine C.aload_n dX9_plainest_129 rfl ?_
            refine C.bi dX9_plainest_130 (by decide) ?_
            refine C.iload dX9_plainest_132 rfl ?_
            refine C.iaddI dX9_plainest_134 ?_
            refine C.topI (b := ((72 + k : Nat) : Int)) (by omega) ?_
            refine C.bi dX9_plainest_135 (by decide) ?_
            refine C.aload_n dX9_plainest_137 rfl ?_
            refine C.mget hL gf_X9_232 dX9_plainest_138 rfl ?_
            refine C.topI (b := (acc.length : Int)) h10 ?_
            refine C.iaddI dX9_plainest_141 ?_
            refine C.iload dX9_plainest_142 rfl ?_
            refine C.iaddI dX9_plainest_144 ?_
            refine C.topI (b := ((24 + acc.length + k : Nat) : Int)) (by omega) ?_
            refine C.mcall hL (hM) cw_X9_copies ml_X9_213 im_X9_copies sl_X9_copies dX9_plainest_145 rfl rfl (by omega) (Nat.le_refl _) (Nat.le_refl _) (Nat.le_of_ble_eq_true rfl) rfl (fun r145 sf145 sa145 hR145 => ?_)
            obtain ⟨rfl, hs2, n1, n2⟩ := hR145
            rw [hs2]
            clear hs2
            refine C.iincI dX9_plainest_148 rfl (by decide) rfl ?_
            refine C.goto (tgt := 120) dX9_plainest_151 (by decide) ?_
            refine ih2 (k + 1) _ _ (by omega) g2 h32 (q2.tr (n2.R (by omega) (by omega)).Q) (fun i y hi => (a1 i y hi).S (okacc y (List.mem_of_getElem? hi)).1.1.1 n2 (by have := (List.getElem?_eq_some_iff.mp hi).1; omega)) (fun i y hi => (a2 i y hi).S (plL_ok hxo y (List.mem_of_getElem? hi)).1.1.1 n2 (by omega)) (fun i y hi hy => ?_) _ _ _
            by_cases hik : i = k
            · subst hik
              obtain rfl : c = y := Option.some.inj (hck.symm.trans hy)
              exact n1
            · exact (a3 i y (by omega) hy).S (plL_ok hxo y (List.mem_of_getElem? hy)).1.1.1 n2 (by omega)
        have tr : ∀ (k : Nat) (sf2 : SF) (sa2 : SA), k < 8 → GbQ 24 75 sa sa2 → MM yX9_tries cX9_tries 5 (some .int) (d - 1) [.int (iI s), .int (iI (wyN (wp k) (wq k) (we k)))] sf2 sa2 (fun r sf' sa' => r = some (.int (iI (vK k x))) ∧ Gq sf2 sf' ∧ GbQ 72 75 sa2 sa' ∧ (okK k x = true → sf' 32 = (wyL (wp k) (wq k) (we k) x).length ∧ SensAt sa' 72 (wyL (wp k) (wq k) (we k) x))) := fun k sf2 sa2 hk hq2 => m_tries (by omega) (by omega) (hxA sa2 hq2) hxo (hez x hxm) (hroom x hxm _ _ _)
        have wl : ∀ (m2 k : Nat) (b l : Int) (sf2 : SF) (sa2 : SA), k + m2 = 8 → bw x k = (b, l) → (-1 ≤ l ∧ l ≤ 40000) → Gq (va_up (va_up sf 0 0) 10 acc.length) sf2 → GbQ 24 75 sa sa2 → SensAt sa2 24 acc → ∀ v5, X 0 0 L (ov sf2 sa2 g) 51 [some (.ref 20), some (.int (iI s)), some (.int (iI b)), some (.int (iI l)), some (.int (iI k)), v5] [] := by
          intro m2
          induction m2 with
          | zero =>
            intro k b l sf2 sa2 hk hb hl g2 q2 a1 v5
            obtain rfl : k = 8 := by omega
            have hbb : b = bsW x := by rw [← w2, hb]
            subst hbb
            have hM := tr (bsW x) sf2 sa2 w1 q2
            refine C.iload dX9_plainest_51 rfl ?_
            refine C.bi dX9_plainest_53 (by decide) ?_
            refine C.icmp_geI (tgt := 109) dX9_plainest_55 (by decide) (by omega) (by omega) (fun hc55 => ?_) (fun hc55 => absurd hc55 (by omega))
            refine C.aload_n dX9_plainest_109 rfl ?_
            refine C.iload_n dX9_plainest_110 rfl ?_
            refine C.iload_n dX9_plainest_111 rfl ?_
            refine C.topI (b := wyN (wp (bsW x)) (wq (bsW x)) (we (bsW x))) (wyN_k w1).symm ?_
            refine C.mcall hL (hM) cw_X9_tries ml_X9_319 im_X9_tries sl_X9_tries dX9_plainest_112 rfl rfl (by omega) (Nat.le_refl _) (Nat.le_refl _) (Nat.le_of_ble_eq_true rfl) rfl (fun r112 sf112 sa112 hR112 => ?_)
            obtain ⟨rfl, g3, q3, hw⟩ := hR112
            obtain ⟨h32, hSe⟩ := hw w3
            refine C.istore dX9_plainest_115 (by decide) rfl ?_
            refine C.ic dX9_plainest_117 ?_
            refine C.istore dX9_plainest_118 (by decide) rfl ?_
            exact cpl (plL x).length 0 _ _ (by omega) (g2.tr g3) h32 (q2.tr (q3.wide (by omega) (by omega))) (a1.Q okacc q3 (by omega)) hSe (fun i c h => absurd h (by omega)) _ _ _
          | succ m2 ih2 =>
            intro k b l sf2 sa2 hk hb hl g2 q2 a1 v5
            have hk8 : k < 8 := by omega
            have hM := tr k sf2 sa2 hk8 q2
            have hspec := bw_spec x k
            rw [hb] at hspec
            simp only [] at hspec
            have hbr : -1 ≤ b ∧ b < 8 := by
              rcases hspec with ⟨h1, _⟩ | ⟨n, h1, h2, _⟩ <;> omega
            have nx : ∀ (b' l' : Int) (sf3 : SF) (sa3 : SA), bw x (k + 1) = (b', l') → (-1 ≤ l' ∧ l' ≤ 40000) → Gq sf2 sf3 → GbQ 72 75 sa2 sa3 → ∀ v5, X 0 0 L (ov sf3 sa3 g) 51 [some (.ref 20), some (.int (iI s)), some (.int (iI b')), some (.int (iI l')), some (.int (iI ((k + 1 : Nat) : Int))), v5] [] := fun b' l' sf3 sa3 hb' hl' g3 q3 v5 => ih2 (k + 1) b' l' sf3 sa3 (by omega) hb' hl' (g2.tr g3) (q2.tr (q3.wide (by omega) (by omega))) (a1.Q okacc q3 (by omega)) v5
            have bs : bw x (k + 1) = if 0 ≤ vK k x ∧ (b < 0 ∨ vK k x < l ∨ (vK k x = l ∧ kK k < kK b.toNat)) then ((k : Int), vK k x) else (b, l) := by
              show (if _ then _ else _) = _
              rw [hb]
            by_cases hbn : 0 ≤ b
            · obtain ⟨n, rfl⟩ : ∃ n : Nat, b = n := ⟨b.toNat, by omega⟩
              rw [Int.toNat_natCast] at bs
              have hn8 : n < 8 := by omega
              refine C.iload dX9_plainest_51 rfl ?_
              refine C.bi dX9_plainest_53 (by decide) ?_
              refine C.icmp_geI (tgt := 109) dX9_plainest_55 (by decide) (by omega) (by omega) (fun hc55 => absurd hc55 (by omega)) (fun hc55 => ?_)
              refine C.aload_n dX9_plainest_58 rfl ?_
              refine C.iload_n dX9_plainest_59 rfl ?_
              refine C.iload dX9_plainest_60 rfl ?_
              refine C.topI (b := wyN (wp k) (wq k) (we k)) (wyN_k hk8).symm ?_
              refine C.mcall hL (hM) cw_X9_tries ml_X9_319 im_X9_tries sl_X9_tries dX9_plainest_62 rfl rfl (by omega) (Nat.le_refl _) (Nat.le_refl _) (Nat.le_of_ble_eq_true rfl) rfl (fun r62 sf62 sa62 hR62 => ?_)
              obtain ⟨rfl, g3, q3, hw⟩ := hR62
              have hvr : -1 ≤ vK k x ∧ vK k x ≤ 40000 := by
                cases hok : okK k x with
                | false => rw [vK_no hok]; omega
                | true =>
                  have h1 := vK_ok hok
                  have h2 := csL_le (hw hok).2 (wyL_ok hxo hok)
                  have h3 := (wyL_len (p := wp k) (t := wq k) (e := we k) hxo).2
                  have h4 : vK k x = (csL (wyL (wp k) (wq k) (we k) x) : Int) := by
                    unfold vK wyV
                    rw [show wyOk (wp k) (wq k) (we k) x = true from hok]
                    rfl
                  omega
              refine C.istore dX9_plainest_65 (by decide) rfl ?_
              refine C.iload dX9_plainest_67 rfl ?_
              refine C.if_ltI (tgt := 103) dX9_plainest_69 (by decide) (by omega) (fun hc69 => ?_) (fun hc69 => ?_)
              · refine C.iincI dX9_plainest_103 rfl (by decide) rfl ?_
                refine C.goto (tgt := 51) dX9_plainest_106 (by decide) ?_
                first | exact nx _ _ _ _ (by rw [bs, if_neg (by omega)]) hl g3 q3 _ | exact nx _ _ _ _ (by rw [bs, if_pos (by omega)]) hvr g3 q3 _
              · refine C.iload_n dX9_plainest_72 rfl ?_
                refine C.if_ltI (tgt := 97) dX9_plainest_73 (by decide) (by omega) (fun hc73 => absurd hc73 (by omega)) (fun hc73 => ?_)
                refine C.iload dX9_plainest_76 rfl ?_
                refine C.iload_n dX9_plainest_78 rfl ?_
                refine C.icmp_ltI (tgt := 97) dX9_plainest_79 (by decide) (by omega) (by omega) (fun hc79 => ?_) (fun hc79 => ?_)
                · refine C.iload dX9_plainest_97 rfl ?_
                  refine C.istore_n dX9_plainest_99 (by decide) rfl ?_
                  refine C.iload dX9_plainest_100 rfl ?_
                  refine C.istore_n dX9_plainest_102 (by decide) rfl ?_
                  refine C.iincI dX9_plainest_103 rfl (by decide) rfl ?_
                  refine C.goto (tgt := 51) dX9_plainest_106 (by decide) ?_
                  first | exact nx _ _ _ _ (by rw [bs, if_neg (by omega)]) hl g3 q3 _ | exact nx _ _ _ _ (by rw [bs, if_pos (by omega)]) hvr g3 q3 _
                · refine C.iload dX9_plainest_82 rfl ?_
                  refine C.iload_n dX9_plainest_84 rfl ?_
                  refine C.icmp_neI (tgt := 103) dX9_plainest_85 (by decide) (by omega) (by omega) (fun hc85 => ?_) (fun hc85 => ?_)
                  · refine C.iincI dX9_plainest_103 rfl (by decide) rfl ?_
                    refine C.goto (tgt := 51) dX9_plainest_106 (by decide) ?_
                    first | exact nx _ _ _ _ (by rw [bs, if_neg (by omega)]) hl g3 q3 _ | exact nx _ _ _ _ (by rw [bs, if_pos (by omega)]) hvr g3 q3 _
                  · refine C.iload dX9_plainest_88 rfl ?_
                    refine C.topI (b := wyN (wp k) (wq k) (we k)) (wyN_k hk8).symm ?_
                    refine C.iload_n dX9_plainest_90 rfl ?_
                    refine C.topI (b := wyN (wp n) (wq n) (we n)) (wyN_k hn8).symm ?_
                    refine C.callS (s_isFewer (d := d - 1) (by omega)) cw_X9_isFewer ml_X9_322 sm_X9_isFewer dX9_plainest_91 rfl (by omega) (Nat.le_refl _) (Nat.le_refl _) (Nat.le_of_ble_eq_true rfl) rfl (fun r L9 f9 h9 => ?_)
                    obtain ⟨rfl, hL9, hf9⟩ := h9
                    rw [hL9, hf9]
                    clear hL9 hf9
                    have hfw : kK k < kK n ↔ ¬ b2i (decide (kkB (wp k) (wq k) (we k) < kkB (wp n) (wq n) (we n))) = 0 := by
                      show kkB _ _ _ < kkB _ _ _ ↔ _
                      by_cases h : kkB (wp k) (wq k) (we k) < kkB (wp n) (wq n) (we n)
                      · rw [decide_eq_true h]; simp [b2i, h]
                      · rw [decide_eq_false h]; simp [b2i, h]
                    refine C.if_eqI (tgt := 103) dX9_plainest_94 (by decide) (by have := b2i_rng (decide (kkB (wp k) (wq k) (we k) < kkB (wp n) (wq n) (we n))); omega) (fun hc94 => ?_) (fun hc94 => ?_)
                    · refine C.iincI dX9_plainest_103 rfl (by decide) rfl ?_
                      refine C.goto (tgt := 51) dX9_plainest_106 (by decide) ?_
                      first | exact nx _ _ _ _ (by rw [bs, if_neg (by omega)]) hl g3 q3 _ | exact nx _ _ _ _ (by rw [bs, if_pos (by omega)]) hvr g3 q3 _
                    · refine C.iload dX9_plainest_97 rfl ?_
                      refine C.istore_n dX9_plainest_99 (by decide) rfl ?_
                      refine C.iload dX9_plainest_100 rfl ?_
                      refine C.istore_n dX9_plainest_102 (by decide) rfl ?_
                      refine C.iincI dX9_plainest_103 rfl (by decide) rfl ?_
                      refine C.goto (tgt := 51) dX9_plainest_106 (by decide) ?_
                      first | exact nx _ _ _ _ (by rw [bs, if_neg (by omega)]) hl g3 q3 _ | exact nx _ _ _ _ (by rw [bs, if_pos (by omega)]) hvr g3 q3 _
            · refine C.iload dX9_plainest_51 rfl ?_
              refine C.bi dX9_plainest_53 (by decide) ?_
              refine C.icmp_geI (tgt := 109) dX9_plainest_55 (by decide) (by omega) (by omega) (fun hc55 => absurd hc55 (by omega)) (fun hc55 => ?_)
              refine C.aload_n dX9_plainest_58 rfl ?_
              refine C.iload_n dX9_plainest_59 rfl ?_
              refine C.iload dX9_plainest_60 rfl ?_
              refine C.topI (b := wyN (wp k) (wq k) (we k)) (wyN_k hk8).symm ?_
              refine C.mcall hL (hM) cw_X9_tries ml_X9_319 im_X9_tries sl_X9_tries dX9_plainest_62 rfl rfl (by omega) (Nat.le_refl _) (Nat.le_refl _) (Nat.le_of_ble_eq_true rfl) rfl (fun r62 sf62 sa62 hR62 => ?_)
              obtain ⟨rfl, g3, q3, hw⟩ := hR62
              have hvr : -1 ≤ vK k x ∧ vK k x ≤ 40000 := by
                cases hok : okK k x with
                | false => rw [vK_no hok]; omega
                | true =>
                  have h1 := vK_ok hok
                  have h2 := csL_le (hw hok).2 (wyL_ok hxo hok)
                  have h3 := (wyL_len (p := wp k) (t := wq k) (e := we k) hxo).2
                  have h4 : vK k x = (csL (wyL (wp k) (wq k) (we k) x) : Int) := by
                    unfold vK wyV
                    rw [show wyOk (wp k) (wq k) (we k) x = true from hok]
                    rfl
                  omega
              refine C.istore dX9_plainest_65 (by decide) rfl ?_
              refine C.iload dX9_plainest_67 rfl ?_
              refine C.if_ltI (tgt := 103) dX9_plainest_69 (by decide) (by omega) (fun hc69 => ?_) (fun hc69 => ?_)
              · refine C.iincI dX9_plainest_103 rfl (by decide) rfl ?_
                refine C.goto (tgt := 51) dX9_plainest_106 (by decide) ?_
                first | exact nx _ _ _ _ (by rw [bs, if_neg (by omega)]) hl g3 q3 _ | exact nx _ _ _ _ (by rw [bs, if_pos (by omega)]) hvr g3 q3 _
              · refine C.iload_n dX9_plainest_72 rfl ?_
                refine C.if_ltI (tgt := 97) dX9_plainest_73 (by decide) (by omega) (fun hc73 => ?_) (fun hc73 => absurd hc73 (by omega))
                refine C.iload dX9_plainest_97 rfl ?_
                refine C.istore_n dX9_plainest_99 (by decide) rfl ?_
                refine C.iload dX9_plainest_100 rfl ?_
                refine C.istore_n dX9_plainest_102 (by decide) rfl ?_
                refine C.iincI dX9_plainest_103 rfl (by decide) rfl ?_
                refine C.goto (tgt := 51) dX9_plainest_106 (by decide) ?_
                first | exact nx _ _ _ _ (by rw [bs, if_neg (by omega)]) hl g3 q3 _ | exact nx _ _ _ _ (by rw [bs, if_pos (by omega)]) hvr g3 q3 _
        refine C.iload_n dX9_plainest_34 rfl ?_
        refine C.ic dX9_plainest_35 ?_
        refine C.aload_n dX9_plainest_36 rfl ?_
        refine C.mget hL gf_X9_216 dX9_plainest_37 rfl ?_
        refine C.topI (b := (xs.length : Int)) h9' ?_
        refine C.iaddI dX9_plainest_40 ?_
        refine C.icmp_geI (tgt := 173) dX9_plainest_41 (by decide) (by omega) (by omega) (fun hc41 => absurd hc41 (by omega)) (fun hc41 => ?_)
        refine C.ic dX9_plainest_44 ?_
        refine C.istore_n dX9_plainest_45 (by decide) rfl ?_
        refine C.ic dX9_plainest_46 ?_
        refine C.istore_n dX9_plainest_47 (by decide) rfl ?_
        refine C.ic dX9_plainest_48 ?_
        refine C.istore dX9_plainest_49 (by decide) rfl ?_
        exact wl 8 0 (-1) 0 sfc sac rfl rfl (by omega) hg hq hS _
    have := outer xs.length 0 (va_up (va_up sf 0 0) 10 0) sa (by omega) (by rw [List.take_zero]; exact Gq.rf) (by rw [List.take_zero]; intro i c hi; cases hi) GbQ.rf
    refine C.aload_n dX9_plainest_0 rfl ?_
    refine C.ic dX9_plainest_1 ?_
    refine C.mput hL pf_X9_59 dX9_plainest_2 (by decide) rfl ?_
    refine C.aload_n dX9_plainest_5 rfl ?_
    refine C.aload_n dX9_plainest_6 rfl ?_
    refine C.mget hL gf_X9_219 dX9_plainest_7 rfl ?_
    refine C.topI (b := 1) h13 ?_
    refine C.if_neI (tgt := 17) dX9_plainest_10 (by decide) (by omega) (fun hc10 => ?_) (fun hc10 => absurd hc10 (by decide))
    refine C.ic dX9_plainest_17 ?_
    refine C.ic dX9_plainest_18 ?_
    refine C.mcall hL (hT) cw_X9_throwsIf ml_X9_209 im_X9_throwsIf sl_X9_throwsIf dX9_plainest_19 rfl rfl (by omega) (Nat.le_refl _) (Nat.le_refl _) (Nat.le_of_ble_eq_true rfl) rfl (fun r19 sf19 sa19 hR19 => ?_)
    obtain ⟨rfl, hs, ha⟩ := hR19
    rw [hs, ha]
    clear hs ha
    refine C.if_eqI (tgt := 27) dX9_plainest_22 (by decide) (by decide) (fun hc22 => ?_) (fun hc22 => absurd hc22 (by decide))
    refine C.aload_n dX9_plainest_27 rfl ?_
    refine C.ic dX9_plainest_28 ?_
    refine C.mput hL pf_X9_232 dX9_plainest_29 (by decide) rfl ?_
    refine C.ic dX9_plainest_32 ?_
    refine C.istore_n dX9_plainest_33 (by decide) rfl ?_
    exact this _ _ _ _
