def mlt (x y : Sen) : Sen := ((x.1.1 ++ y.1.1, x.1.2), x.2)
def canM (x y : Sen) : Bool := alk x y && decide (x.1.1.length + y.1.1.length ≤ 3) && decide (∀ v ∈ x.1.1, v ∉ y.1.1)
def mel (ys : List Sen) (k : Nat) (x y : Sen) : List Sen := ys.take k ++ mlt x y :: ys.drop (k + 2)
theorem SOk.mlt {x y : Sen} (hx : SOk x) (hy : SOk y) (h : canM x y = true) : SOk (mlt x y) := by
  unfold canM at h
  rw [Bool.and_eq_true, Bool.and_eq_true, decide_eq_true_eq, decide_eq_true_eq] at h
  obtain ⟨⟨_, h2⟩, h3⟩ := h
  obtain ⟨⟨⟨k1, k2, k3, k4⟩, k5⟩, k9⟩ := hx
  obtain ⟨⟨⟨l1, l2, l3, l4⟩, l5⟩, l9⟩ := hy
  refine ⟨⟨⟨by show (x.1.1 ++ y.1.1).length ≤ 3; rw [List.length_append]; exact h2, by show 1 ≤ (x.1.1 ++ y.1.1).length; rw [List.length_append]; omega, fun v hv => ?_, ?_⟩, k5⟩, k9⟩
  · rcases List.mem_append.mp hv with h | h
    · exact k3 v h
    · exact l3 v h
  · show (x.1.1 ++ y.1.1).Nodup
    rw [List.nodup_append]
    exact ⟨k4, l4, fun a ha b hb e => h3 a ha (e ▸ hb)⟩
theorem getD_mem {xs : List Int} {j : Nat} (h : j < xs.length) : xs.getD j 0 ∈ xs := by
  rw [List.getD_eq_getElem?_getD, List.getElem?_eq_getElem h]
  exact List.getElem_mem h
theorem getD_app {xs ys : List Int} {j : Nat} : (xs ++ ys).getD (xs.length + j) 0 = ys.getD j 0 := by
  rw [List.getD_eq_getElem?_getD, List.getElem?_append_right (by omega), List.getD_eq_getElem?_getD, Nat.add_sub_cancel_left]
theorem getD_apl {xs ys : List Int} {j : Nat} (h : j < xs.length) : (xs ++ ys).getD j 0 = xs.getD j 0 := by
  rw [List.getD_eq_getElem?_getD, List.getElem?_append_left h, List.getD_eq_getElem?_getD]
set_option maxRecDepth 20000 in
set_option maxHeartbeats 2000000 in
theorem m_melt {d : Nat} {ys : List Sen} {z : Int} {sf : SF} {sa : SA} (hd : 3 ≤ d) (hz : i3 z) (h13 : sf 13 = 0 ∨ sf 13 = 1) (h10 : sf 10 = ys.length) (hy : SensAt sa 24 ys) (ly : ys.length ≤ 24) (oky : ∀ x ∈ ys, SOk x) : MM yX9_melt cX9_melt 6 (some .boolean) d [.int (iI z)] sf sa (fun r sf' sa' => (rfC (sf 13) ys.length z ≠ 0 → r = some (.int (iI 0)) ∧ sf' = va_up sf 0 (rfC (sf 13) ys.length z) ∧ sa' = sa) ∧ (rfC (sf 13) ys.length z = 0 → z = (ys.length : Int) - 1 → r = some (.int (iI 0)) ∧ sf' = va_up sf 0 0 ∧ sa' = sa) ∧ (rfC (sf 13) ys.length z = 0 → ∀ x y, ys[z.toNat]? = some x → ys[z.toNat + 1]? = some y → r = some (.int (iI (b2i (canM x y)))) ∧ sf' = (if canM x y then va_up (va_up (va_up sf 0 0) 10 ((ys.length - 1 : Nat) : Int)) 12 (sf 12 + 1) else va_up sf 0 0) ∧ SensAt sa' 24 (if canM x y then mel ys z.toNat x y else ys) ∧ GbR 24 48 sa sa')) := by
  by_cases hc : rfC (sf 13) ys.length z = 0
  · have hR := m_refN (d := d - 1) (sa := sa) (by omega) hz h13 h10 ly hc
    obtain ⟨z0, z1⟩ := rfC_in hc
    by_cases hlast : z = (ys.length : Int) - 1
    · refine MM.of2 (by decide +kernel) rfl (Nat.le_of_ble_eq_true rfl) (fun L g hL X C => ?_)
      refine C.aload_n dX9_melt_0 rfl ?_
      refine C.ic dX9_melt_1 ?_
      refine C.mput hL pf_X9_59 dX9_melt_2 (by decide) rfl ?_
      refine C.aload_n dX9_melt_5 rfl ?_
      refine C.iload_n dX9_melt_6 rfl ?_
      refine C.mcall hL (hR) cw_X9_refuses ml_X9_301 im_X9_refuses sl_X9_refuses dX9_melt_7 rfl rfl (by omega) (Nat.le_refl _) (Nat.le_refl _) (Nat.le_of_ble_eq_true rfl) rfl (fun r7 sf7 sa7 hR7 => ?_)
      obtain ⟨rfl, hs, ha⟩ := hR7
      rw [hs, ha]
      clear hs ha
      refine C.if_neI (tgt := 23) dX9_melt_10 (by decide) (by decide) (fun hc10 => absurd hc10 (by decide)) (fun hc10 => ?_)
      refine C.iload_n dX9_melt_13 rfl ?_
      refine C.aload_n dX9_melt_14 rfl ?_
      refine C.mget hL gf_X9_232 dX9_melt_15 rfl ?_
      refine C.topI (b := (ys.length : Int)) h10 ?_
      refine C.ic dX9_melt_18 ?_
      refine C.isubI dX9_melt_19 ?_
      refine C.icmp_neI (tgt := 25) dX9_melt_20 (by decide) (by omega) (by omega) (fun hc20 => absurd hc20 (by omega)) (fun hc20 => ?_)
      refine C.ic dX9_melt_23 ?_
      refine C.retI rfl (by first | rfl | (exact (iI_bool (by first | exact Or.inl rfl | exact Or.inr rfl | assumption)).1)) dX9_melt_24 (Nat.le_refl _) (Nat.le_refl _) ⟨_, _, ?_, rfl, rfl⟩
      refine ⟨fun h => absurd hc h, fun _ _ => ⟨rfl, rfl, rfl⟩, fun _ x y _ h2 => absurd (List.getElem?_eq_some_iff.mp h2).1 (by omega)⟩
    obtain ⟨k, rfl⟩ : ∃ k : Nat, z = k := ⟨z.toNat, by omega⟩
    rw [Int.toNat_natCast]
    have hil : k < ys.length := by omega
    have hxi : ys[k]? = some ys[k] := List.getElem?_eq_getElem hil
    generalize ys[k] = x at hxi
    have hil2 : k + 1 < ys.length := by omega
    have hyi : ys[k + 1]? = some ys[k + 1] := List.getElem?_eq_getElem hil2
    generalize ys[k + 1] = y at hyi
    have ox := oky x (List.mem_of_getElem? hxi)
    have oy := oky y (List.mem_of_getElem? hyi)
    have hxA := hy k x hxi
    have hyA : SenAt sa (24 + k + 1) y := hy (k + 1) y hyi
    have ex : sa 21 (24 + k) = x.1.1.length := hxA.1.1
    have ey : sa 21 (24 + k + 1) = y.1.1.length := hyA.1.1
    have lx3 := ox.1.1.1
    have ly3 := oy.1.1.1
    have lx1 := ox.1.1.2.1
    have ly1 := oy.1.1.2.1
    have hAl := m_areAlike (d := d - 1) (s := 24 + k) (t := 24 + k + 1) (sf := va_up sf 0 0) (by omega) (by omega) hxA hyA ox oy
    have hno : ∀ (r : Option Value) (sf' : SF) (sa' : SA), canM x y = false → r = some (.int (iI 0)) → sf' = va_up sf 0 0 → sa' = sa → (rfC (sf 13) ys.length (k : Int) ≠ 0 → r = some (.int (iI 0)) ∧ sf' = va_up sf 0 (rfC (sf 13) ys.length (k : Int)) ∧ sa' = sa) ∧ (rfC (sf 13) ys.length (k : Int) = 0 → (k : Int) = (ys.length : Int) - 1 → r = some (.int (iI 0)) ∧ sf' = va_up sf 0 0 ∧ sa' = sa) ∧ (rfC (sf 13) ys.length (k : Int) = 0 → ∀ x y, ys[k]? = some x → ys[k + 1]? = some y → r = some (.int (iI (b2i (canM x y)))) ∧ sf' = (if canM x y then va_up (va_up (va_up sf 0 0) 10 ((ys.length - 1 : Nat) : Int)) 12 (sf 12 + 1) else va_up sf 0 0) ∧ SensAt sa' 24 (if canM x y then mel ys k x y else ys) ∧ GbR 24 48 sa sa') := by
      intro r sf' sa' hcm h1 h2 h3
      subst h1 h2 h3
      refine ⟨fun h => absurd hc h, fun _ h => absurd h hlast, fun _ x' y' hx' hy' => ?_⟩
      obtain rfl : x = x' := Option.some.inj (hxi.symm.trans hx')
      obtain rfl : y = y' := Option.some.inj (hyi.symm.trans hy')
      rw [hcm]
      exact ⟨rfl, rfl, hy, GbR.rf⟩
    cases hal : alk x y with
    | false =>
      rw [hal] at hAl
      have hcm : canM x y = false := by unfold canM; rw [hal]; rfl
      refine MM.of2 (by decide +kernel) rfl (Nat.le_of_ble_eq_true rfl) (fun L g hL X C => ?_)
      refine C.aload_n dX9_melt_0 rfl ?_
      refine C.ic dX9_melt_1 ?_
      refine C.mput hL pf_X9_59 dX9_melt_2 (by decide) rfl ?_
      refine C.aload_n dX9_melt_5 rfl ?_
      refine C.iload_n dX9_melt_6 rfl ?_
      refine C.mcall hL (hR) cw_X9_refuses ml_X9_301 im_X9_refuses sl_X9_refuses dX9_melt_7 rfl rfl (by omega) (Nat.le_refl _) (Nat.le_refl _) (Nat.le_of_ble_eq_true rfl) rfl (fun r7 sf7 sa7 hR7 => ?_)
      obtain ⟨rfl, hs, ha⟩ := hR7
      rw [hs, ha]
      clear hs ha
      refine C.if_neI (tgt := 23) dX9_melt_10 (by decide) (by decide) (fun hc10 => absurd hc10 (by decide)) (fun hc10 => ?_)
      refine C.iload_n dX9_melt_13 rfl ?_
      refine C.aload_n dX9_melt_14 rfl ?_
      refine C.mget hL gf_X9_232 dX9_melt_15 rfl ?_
      refine C.topI (b := (ys.length : Int)) h10 ?_
      refine C.ic dX9_melt_18 ?_
      refine C.isubI dX9_melt_19 ?_
      refine C.icmp_neI (tgt := 25) dX9_melt_20 (by decide) (by omega) (by omega) (fun hc20 => ?_) (fun hc20 => absurd hc20 hlast)
      refine C.bi dX9_melt_25 (by decide) ?_
      refine C.iload_n dX9_melt_27 rfl ?_
      refine C.iaddI dX9_melt_28 ?_
      refine C.topI (b := ((24 + k : Nat) : Int)) (by omega) ?_
      refine C.istore_n dX9_melt_29 (by decide) rfl ?_
      refine C.iload_n dX9_melt_30 rfl ?_
      refine C.ic dX9_melt_31 ?_
      refine C.iaddI dX9_melt_32 ?_
      refine C.topI (b := ((24 + k + 1 : Nat) : Int)) (by omega) ?_
      refine C.istore_n dX9_melt_33 (by decide) rfl ?_
      refine C.aload_n dX9_melt_34 rfl ?_
      refine C.iload_n dX9_melt_35 rfl ?_
      refine C.iload_n dX9_melt_36 rfl ?_
      refine C.mcall hL (hAl) cw_X9_areAlike ml_X9_304 im_X9_areAlike sl_X9_areAlike dX9_melt_37 rfl rfl (by omega) (Nat.le_refl _) (Nat.le_refl _) (Nat.le_of_ble_eq_true rfl) rfl (fun r37 sf37 sa37 hR37 => ?_)
      obtain ⟨rfl, hs, ha⟩ := hR37
      rw [hs, ha]
      clear hs ha
      refine C.if_eqI (tgt := 60) dX9_melt_40 (by decide) (by decide) (fun hc40 => ?_) (fun hc40 => absurd hc40 (by decide))
      refine C.ic dX9_melt_60 ?_
      refine C.retI rfl (by first | rfl | (exact (iI_bool (by first | exact Or.inl rfl | exact Or.inr rfl | assumption)).1)) dX9_melt_61 (Nat.le_refl _) (Nat.le_refl _) ⟨_, _, ?_, rfl, rfl⟩
      exact hno _ _ _ hcm rfl rfl rfl
    | true =>
      rw [hal] at hAl
      by_cases h3 : x.1.1.length + y.1.1.length ≤ 3
      · have nodj : ∀ v, v ∈ x.1.1 → v ∈ y.1.1 → canM x y = false := fun v h1 h2 => by
          unfold canM
          rw [show decide (∀ v ∈ x.1.1, v ∉ y.1.1) = false from decide_eq_false (fun h => h v h1 h2), Bool.and_false]
        have vx : ∀ j, j < x.1.1.length → sa 22 (3 * (24 + k) + j) = x.1.1.getD j 0 := hxA.1.2.1
        have vy : ∀ j, j < y.1.1.length → sa 22 (3 * (24 + k + 1) + j) = y.1.1.getD j 0 := hyA.1.2.1
        refine MM.of2 (by decide +kernel) rfl (Nat.le_of_ble_eq_true rfl) (fun L g hL X C => ?_)
        have cpl : (∀ v ∈ x.1.1, v ∉ y.1.1) → ∀ (m i : Nat) (sac : SA), i + 1 + m = ys.length → k + 1 ≤ i → GbR 24 48 sa sac → SenAt sac (24 + k) (mlt x y) → (∀ j w, j < k → ys[j]? = some w → SenAt sac (24 + j) w) → (∀ j w, k + 1 ≤ j → j < i → ys[j + 1]? = some w → SenAt sac (24 + j) w) → (∀ j w, i < j → ys[j]? = some w → SenAt sac (24 + j) w) → ∀ v5, X 0 0 L (ov (va_up sf 0 0) sac g) 198 [some (.ref 20), some (.int (iI k)), some (.int (iI ((24 + k : Nat) : Int))), some (.int (iI ((24 + k + 1 : Nat) : Int))), some (.int (iI i)), v5] [] := by
          intro hdj m
          have hcm : canM x y = true := by
            unfold canM
            rw [hal, decide_eq_true h3, decide_eq_true hdj]
            rfl
          have okm := ox.mlt oy hcm
          induction m with
          | zero =>
            intro i sac hi hki hg qm q1 q2 q3 v5
            refine C.iload dX9_melt_198 rfl ?_
            refine C.aload_n dX9_melt_200 rfl ?_
            refine C.mget hL gf_X9_232 dX9_melt_201 rfl ?_
            refine C.topI (b := (ys.length : Int)) h10 ?_
            refine C.ic dX9_melt_204 ?_
            refine C.isubI dX9_melt_205 ?_
            refine C.icmp_geI (tgt := 231) dX9_melt_206 (by decide) (by omega) (by omega) (fun hc206 => ?_) (fun hc206 => absurd hc206 (by omega))
            refine C.aload_n dX9_melt_231 rfl ?_
            refine C.dup dX9_melt_232 rfl ?_
            refine C.mget hL gf_X9_232 dX9_melt_233 rfl ?_
            refine C.topI (b := (ys.length : Int)) h10 ?_
            refine C.ic dX9_melt_236 ?_
            refine C.isubI dX9_melt_237 ?_
            refine C.topI (b := ((ys.length - 1 : Nat) : Int)) (by omega) ?_
            refine C.mput hL pf_X9_232 dX9_melt_238 (by decide) rfl ?_
            refine C.aload_n dX9_melt_241 rfl ?_
            refine C.dup dX9_melt_242 rfl ?_
            refine C.mget hL gf_X9_226 dX9_melt_243 rfl ?_
            refine C.ic dX9_melt_246 ?_
            refine C.iaddI dX9_melt_247 ?_
            refine C.mput hL pf_X9_226 dX9_melt_248 (by decide) rfl ?_
            refine C.ic dX9_melt_251 ?_
            refine C.retI rfl (by first | rfl | (exact (iI_bool (by first | exact Or.inl rfl | exact Or.inr rfl | assumption)).1)) dX9_melt_252 (Nat.le_refl _) (Nat.le_refl _) ⟨_, _, ?_, rfl, rfl⟩
            refine ⟨fun h => absurd hc h, fun _ h => absurd h hlast, fun _ x' y' hx' hy' => ?_⟩
            obtain rfl : x = x' := Option.some.inj (hxi.symm.trans hx')
            obtain rfl : y = y' := Option.some.inj (hyi.symm.trans hy')
            rw [hcm]
            refine ⟨rfl, rfl, fun j w hj => ?_, hg⟩
            rw [if_pos rfl] at hj
            unfold mel at hj
            by_cases hj1 : j < k
            · rw [List.getElem?_append_left (by rw [List.length_take]; omega), List.getElem?_take_of_lt hj1] at hj
              exact q1 j w hj1 hj
            rw [List.getElem?_append_right (by rw [List.length_take]; omega), List.length_take, Nat.min_eq_left (by omega)] at hj
            by_cases hj2 : j = k
            · subst hj2
              rw [Nat.sub_self, List.getElem?_cons_zero] at hj
              cases hj
              exact qm
            · rw [show j - k = (j - k - 1) + 1 by omega, List.getElem?_cons_succ, List.getElem?_drop, show k + 2 + (j - k - 1) = j + 1 by omega] at hj
              exact q2 j w (by omega) (by have := (List.getElem?_eq_some_iff.mp hj).1; omega) hj
          | succ m ih =>
            intro i sac hi hki hg qm q1 q2 q3 v5
            have hjl : i + 1 < ys.length := by omega
            have hyj : ys[i + 1]? = some ys[i + 1] := List.getElem?_eq_getElem hjl
            generalize ys[i + 1] = yj at hyj
            have hM := m_copiesS (d := d - 1) (sf := va_up sf 0 0) (fr := 24 + (i + 1)) (to := 24 + i) (by omega) (by omega) (q3 _ yj (by omega) hyj) (oky yj (List.mem_of_getElem? hyj))
            refine C.iload dX9_melt_198 rfl ?_
            refine C.aload_n dX9_melt_200 rfl ?_
            refine C.mget hL gf_X9_232 dX9_melt_201 rfl ?_
            refine C.topI (b := (ys.length : Int)) h10 ?_
            refine C.ic dX9_melt_204 ?_
            refine C.isubI dX9_melt_205 ?_
            refine C.icmp_geI (tgt := 231) dX9_melt_206 (by decide) (by omega) (by omega) (fun hc206 => absurd hc206 (by omega)) (fun hc206 => ?_)
            refine C.aload_n dX9_melt_209 rfl ?_
            refine C.bi dX9_melt_210 (by decide) ?_
            refine C.iload dX9_melt_212 rfl ?_
            refine C.iaddI dX9_melt_214 ?_
            refine C.ic dX9_melt_215 ?_
            refine C.iaddI dX9_melt_216 ?_
            refine C.topI (b := ((24 + (i + 1) : Nat) : Int)) (by omega) ?_
            refine C.bi dX9_melt_217 (by decide) ?_
            refine C.iload dX9_melt_219 rfl ?_
            refine C.iaddI dX9_melt_221 ?_
            refine C.topI (b := ((24 + i : Nat) : Int)) (by omega) ?_
            refine C.mcall hL (hM) cw_X9_copies ml_X9_213 im_X9_copies sl_X9_copies dX9_melt_222 rfl rfl (by omega) (Nat.le_refl _) (Nat.le_refl _) (Nat.le_of_ble_eq_true rfl) rfl (fun r222 sf222 sa222 hR222 => ?_)
            obtain ⟨rfl, hs2, n1, n2⟩ := hR222
            rw [hs2]
            clear hs2
            refine C.iincI dX9_melt_225 rfl (by decide) rfl ?_
            refine C.goto (tgt := 198) dX9_melt_228 (by decide) ?_
            refine ih (i + 1) _ (by omega) (by omega) (hg.tr (n2.R (by omega) (by omega))) (qm.S okm.1.1.1 n2 (by omega)) (fun j w h1 h2 => (q1 j w h1 h2).S (oky w (List.mem_of_getElem? h2)).1.1.1 n2 (by omega)) (fun j w h1 h2 hw => ?_) (fun j w h1 h2 => (q3 j w (by omega) h2).S (oky w (List.mem_of_getElem? h2)).1.1.1 n2 (by omega)) _
            by_cases hji : j = i
            · subst hji
              obtain rfl : yj = w := Option.some.inj (hyj.symm.trans hw)
              exact n1
            · exact (q2 j w h1 (by omega) hw).S (oky w (List.mem_of_getElem? hw)).1.1.1 n2 (by omega)
        have apl : (∀ v ∈ x.1.1, v ∉ y.1.1) → ∀ (m j : Nat) (sac : SA), j + m = y.1.1.length → (∀ a, a ≠ 22 → sac a = sa a) → (∀ i, ¬ (3 * (24 + k) + x.1.1.length ≤ i ∧ i < 3 * (24 + k) + 3) → sac 22 i = sa 22 i) → (∀ i, i < j → sac 22 (3 * (24 + k) + x.1.1.length + i) = y.1.1.getD i 0) → ∀ v5, X 0 0 L (ov (va_up sf 0 0) sac g) 132 [some (.ref 20), some (.int (iI k)), some (.int (iI ((24 + k : Nat) : Int))), some (.int (iI ((24 + k + 1 : Nat) : Int))), some (.int (iI j)), v5] [] := by
          intro hdj m
          have hcm : canM x y = true := by
            unfold canM
            rw [hal, decide_eq_true h3, decide_eq_true hdj]
            rfl
          induction m with
          | zero =>
            intro j sac hj ha hb hi v5
            have ex' : sac 21 (24 + k) = x.1.1.length := by rw [ha 21 (by decide)]; exact ex
            have ey' : sac 21 (24 + k + 1) = y.1.1.length := by rw [ha 21 (by decide)]; exact ey
            have hG : GbS sa (va_up sac 21 (va_up (sac 21) (24 + k) ((x.1.1.length + y.1.1.length : Nat) : Int))) (24 + k) := fun a i x1 x2 x3 x4 x5 x6 x7 => by
              by_cases h1 : a = 21
              · subst h1
                rw [va_up_self, va_up_ne _ _ (fun e => x4 ⟨Or.inl rfl, e⟩), ha 21 (by decide)]
              rw [va_up_ne _ _ h1]
              by_cases h2 : a = 22
              · subst h2
                exact hb i (fun e => x5 ⟨rfl, by omega, by omega⟩)
              · rw [ha a h2]
            have hS : SenAt (va_up sac 21 (va_up (sac 21) (24 + k) ((x.1.1.length + y.1.1.length : Nat) : Int))) (24 + k) (mlt x y) := by
              obtain ⟨⟨b1, b2, b3, b4, b5⟩, q1, q2, q3⟩ := hxA
              have e : ∀ a, a ≠ 21 → a ≠ 22 → va_up sac 21 (va_up (sac 21) (24 + k) ((x.1.1.length + y.1.1.length : Nat) : Int)) a = sa a := fun a h1 h2 => by rw [va_up_ne _ _ h1, ha a h2]
              refine ⟨⟨?_, fun i hi2 => ?_, by rw [e 23 (by decide) (by decide)]; exact b3, by rw [e 24 (by decide) (by decide)]; exact b4, by rw [e 26 (by decide) (by decide)]; exact b5⟩, by rw [e 25 (by decide) (by decide)]; exact q1, q2.keep (by rw [e 27 (by decide) (by decide)]) (fun j _ => by rw [e 28 (by decide) (by decide)]), q3.keep (by rw [e 27 (by decide) (by decide)]) (fun j _ => by rw [e 28 (by decide) (by decide)])⟩
              · rw [va_up_self, va_up_self]
                show _ = (((x.1.1 ++ y.1.1).length : Nat) : Int)
                rw [List.length_append]
              · have hi3 : i < (x.1.1 ++ y.1.1).length := hi2
                rw [List.length_append] at hi3
                rw [va_up_ne _ _ (by decide)]
                show _ = (x.1.1 ++ y.1.1).getD i 0
                by_cases hix : i < x.1.1.length
                · rw [hb _ (by omega), getD_apl hix]
                  exact b2 i hix
                · have := hi (i - x.1.1.length) (by omega)
                  rw [show 3 * (24 + k) + x.1.1.length + (i - x.1.1.length) = 3 * (24 + k) + i by omega] at this
                  rw [this, ← getD_app (xs := x.1.1), show x.1.1.length + (i - x.1.1.length) = i by omega]
            refine C.iload dX9_melt_132 rfl ?_
            refine C.aload_n dX9_melt_134 rfl ?_
            refine C.mget hL gf_X9_9 dX9_melt_135 rfl ?_
            refine C.iload_n dX9_melt_138 rfl ?_
            refine C.maldk hL dX9_melt_139 (by decide) rfl (by decide) rfl (by omega) ?_
            refine C.topI (b := (y.1.1.length : Int)) ey' ?_
            refine C.icmp_geI (tgt := 178) dX9_melt_140 (by decide) (by omega) (by omega) (fun hc140 => ?_) (fun hc140 => absurd hc140 (by omega))
            refine C.aload_n dX9_melt_178 rfl ?_
            refine C.mget hL gf_X9_9 dX9_melt_179 rfl ?_
            refine C.iload_n dX9_melt_182 rfl ?_
            refine C.dup2 dX9_melt_183 rfl rfl ?_
            refine C.maldk hL dX9_melt_184 (by decide) rfl (by decide) rfl (by omega) ?_
            refine C.topI (b := (x.1.1.length : Int)) ex' ?_
            refine C.aload_n dX9_melt_185 rfl ?_
            refine C.mget hL gf_X9_9 dX9_melt_186 rfl ?_
            refine C.iload_n dX9_melt_189 rfl ?_
            refine C.maldk hL dX9_melt_190 (by decide) rfl (by decide) rfl (by omega) ?_
            refine C.topI (b := (y.1.1.length : Int)) ey' ?_
            refine C.iaddI dX9_melt_191 ?_
            refine C.topI (b := ((x.1.1.length + y.1.1.length : Nat) : Int)) (by omega) ?_
            refine C.mastk hL (ovs_21 _ _ _) dX9_melt_192 (by decide) rfl (by decide) rfl (by omega) ?_
            refine C.iload_n dX9_melt_193 rfl ?_
            refine C.ic dX9_melt_194 ?_
            refine C.iaddI dX9_melt_195 ?_
            refine C.istore dX9_melt_196 (by decide) rfl ?_
            exact cpl hdj (ys.length - 1 - (k + 1)) (k + 1) _ (by omega) (by omega) (hG.R (by omega) (by omega)) hS (fun j w h1 h2 => (hy j w h2).S (oky w (List.mem_of_getElem? h2)).1.1.1 hG (by omega)) (fun j w h1 h2 => absurd h1 (by omega)) (fun j w h1 h2 => (hy j w h2).S (oky w (List.mem_of_getElem? h2)).1.1.1 hG (by omega)) _
          | succ m ih =>
            intro j sac hj ha hb hi v5
            have ex' : sac 21 (24 + k) = x.1.1.length := by rw [ha 21 (by decide)]; exact ex
            have ey' : sac 21 (24 + k + 1) = y.1.1.length := by rw [ha 21 (by decide)]; exact ey
            have ev : sac 22 (3 * (24 + k + 1) + j) = y.1.1.getD j 0 := by rw [hb _ (by omega)]; exact vy j (by omega)
            refine C.iload dX9_melt_132 rfl ?_
            refine C.aload_n dX9_melt_134 rfl ?_
            refine C.mget hL gf_X9_9 dX9_melt_135 rfl ?_
            refine C.iload_n dX9_melt_138 rfl ?_
            refine C.maldk hL dX9_melt_139 (by decide) rfl (by decide) rfl (by omega) ?_
            refine C.topI (b := (y.1.1.length : Int)) ey' ?_
            refine C.icmp_geI (tgt := 178) dX9_melt_140 (by decide) (by omega) (by omega) (fun hc140 => absurd hc140 (by omega)) (fun hc140 => ?_)
            refine C.aload_n dX9_melt_143 rfl ?_
            refine C.mget hL gf_X9_13 dX9_melt_144 rfl ?_
            refine C.ic dX9_melt_147 ?_
            refine C.iload_n dX9_melt_148 rfl ?_
            refine C.imulI dX9_melt_149 ?_
            refine C.aload_n dX9_melt_150 rfl ?_
            refine C.mget hL gf_X9_9 dX9_melt_151 rfl ?_
            refine C.iload_n dX9_melt_154 rfl ?_
            refine C.maldk hL dX9_melt_155 (by decide) rfl (by decide) rfl (by omega) ?_
            refine C.topI (b := (x.1.1.length : Int)) ex' ?_
            refine C.iaddI dX9_melt_156 ?_
            refine C.iload dX9_melt_157 rfl ?_
            refine C.iaddI dX9_melt_159 ?_
            refine C.topI (b := ((3 * (24 + k) + x.1.1.length + j : Nat) : Int)) (by omega) ?_
            refine C.aload_n dX9_melt_160 rfl ?_
            refine C.mget hL gf_X9_13 dX9_melt_161 rfl ?_
            refine C.ic dX9_melt_164 ?_
            refine C.iload_n dX9_melt_165 rfl ?_
            refine C.imulI dX9_melt_166 ?_
            refine C.iload dX9_melt_167 rfl ?_
            refine C.iaddI dX9_melt_169 ?_
            refine C.maldk hL (k := 3 * (24 + k + 1) + j) dX9_melt_170 (by decide) rfl (by decide) (by omega) (by omega) ?_
            refine C.topI (b := y.1.1.getD j 0) ev ?_
            refine C.mastk hL (ovs_22 _ _ _) dX9_melt_171 (by decide) rfl (by decide) rfl (by omega) ?_
            refine C.iincI dX9_melt_172 rfl (by decide) rfl ?_
            refine C.goto (tgt := 132) dX9_melt_175 (by decide) ?_
            refine ih (j + 1) _ (by omega) (fun a h => (va_up_ne _ _ h).trans (ha a h)) (fun i hi2 => ?_) (fun i hi2 => ?_) _
            · rw [va_up_self, va_up_ne _ _ (by omega)]
              exact hb i hi2
            · rw [va_up_self]
              by_cases hij : i = j
              · subst hij
                rw [va_up_self]
              · rw [va_up_ne _ _ (by omega)]
                exact hi i (by omega)
        have jl : ∀ (i : Nat), i < x.1.1.length → (x.1.1.getD i 0 ∉ y.1.1 → X 0 0 L (ov (va_up sf 0 0) sa g) 65 [some (.ref 20), some (.int (iI k)), some (.int (iI ((24 + k : Nat) : Int))), some (.int (iI ((24 + k + 1 : Nat) : Int))), some (.int (iI ((i : Int) + 1))), some (.int (iI y.1.1.length))] []) → ∀ (m j : Nat), j + m = y.1.1.length → (∀ q, q < j → y.1.1.getD q 0 ≠ x.1.1.getD i 0) → X 0 0 L (ov (va_up sf 0 0) sa g) 79 [some (.ref 20), some (.int (iI k)), some (.int (iI ((24 + k : Nat) : Int))), some (.int (iI ((24 + k + 1 : Nat) : Int))), some (.int (iI i)), some (.int (iI j))] [] := by
          intro i hi hK m
          induction m with
          | zero =>
            intro j hj hq
            obtain rfl : j = y.1.1.length := by omega
            refine C.iload dX9_melt_79 rfl ?_
            refine C.aload_n dX9_melt_81 rfl ?_
            refine C.mget hL gf_X9_9 dX9_melt_82 rfl ?_
            refine C.iload_n dX9_melt_85 rfl ?_
            refine C.maldk hL dX9_melt_86 (by decide) rfl (by decide) rfl (by omega) ?_
            refine C.topI (b := (y.1.1.length : Int)) ey ?_
            refine C.icmp_geI (tgt := 123) dX9_melt_87 (by decide) (by omega) (by omega) (fun hc87 => ?_) (fun hc87 => absurd hc87 (by omega))
            refine C.iincI dX9_melt_123 rfl (by decide) rfl ?_
            refine C.goto (tgt := 65) dX9_melt_126 (by decide) ?_
            refine hK (fun hmem => ?_)
            obtain ⟨q, hq1, hq2⟩ := List.getElem_of_mem hmem
            refine hq q hq1 ?_
            rw [List.getD_eq_getElem?_getD, List.getElem?_eq_getElem hq1]
            exact hq2
          | succ m ih =>
            intro j hj hq
            have e1 := vx i hi
            have e2 := vy j (by omega)
            have r1 := ox.1.1.2.2.1 _ (getD_mem hi)
            have r2 := oy.1.1.2.2.1 _ (getD_mem (show j < y.1.1.length by omega))
            refine C.iload dX9_melt_79 rfl ?_
            refine C.aload_n dX9_melt_81 rfl ?_
            refine C.mget hL gf_X9_9 dX9_melt_82 rfl ?_
            refine C.iload_n dX9_melt_85 rfl ?_
            refine C.maldk hL dX9_melt_86 (by decide) rfl (by decide) rfl (by omega) ?_
            refine C.topI (b := (y.1.1.length : Int)) ey ?_
            refine C.icmp_geI (tgt := 123) dX9_melt_87 (by decide) (by omega) (by omega) (fun hc87 => absurd hc87 (by omega)) (fun hc87 => ?_)
            refine C.aload_n dX9_melt_90 rfl ?_
            refine C.mget hL gf_X9_13 dX9_melt_91 rfl ?_
            refine C.ic dX9_melt_94 ?_
            refine C.iload_n dX9_melt_95 rfl ?_
            refine C.imulI dX9_melt_96 ?_
            refine C.iload dX9_melt_97 rfl ?_
            refine C.iaddI dX9_melt_99 ?_
            refine C.maldk hL (k := 3 * (24 + k) + i) dX9_melt_100 (by decide) rfl (by decide) (by omega) (by omega) ?_
            refine C.topI (b := x.1.1.getD i 0) e1 ?_
            refine C.aload_n dX9_melt_101 rfl ?_
            refine C.mget hL gf_X9_13 dX9_melt_102 rfl ?_
            refine C.ic dX9_melt_105 ?_
            refine C.iload_n dX9_melt_106 rfl ?_
            refine C.imulI dX9_melt_107 ?_
            refine C.iload dX9_melt_108 rfl ?_
            refine C.iaddI dX9_melt_110 ?_
            refine C.maldk hL (k := 3 * (24 + k + 1) + j) dX9_melt_111 (by decide) rfl (by decide) (by omega) (by omega) ?_
            refine C.topI (b := y.1.1.getD j 0) e2 ?_
            refine C.icmp_neI (tgt := 117) dX9_melt_112 (by decide) (by omega) (by omega) (fun hc112 => ?_) (fun hc112 => ?_)
            · refine C.iincI dX9_melt_117 rfl (by decide) rfl ?_
              refine C.goto (tgt := 79) dX9_melt_120 (by decide) ?_
              refine ih (j + 1) (by omega) (fun q hq2 => ?_)
              by_cases hqj : q = j
              · subst hqj; exact fun h => hc112 h.symm
              · exact hq q (by omega)
            · refine C.ic dX9_melt_115 ?_
              refine C.retI rfl (by first | rfl | (exact (iI_bool (by first | exact Or.inl rfl | exact Or.inr rfl | assumption)).1)) dX9_melt_116 (Nat.le_refl _) (Nat.le_refl _) ⟨_, _, ?_, rfl, rfl⟩
              exact hno _ _ _ (nodj _ (getD_mem hi) (by rw [hc112]; exact getD_mem (by omega))) rfl rfl rfl
        have il : ∀ (m i : Nat), i + m = x.1.1.length → (∀ q, q < i → x.1.1.getD q 0 ∉ y.1.1) → ∀ v5, X 0 0 L (ov (va_up sf 0 0) sa g) 65 [some (.ref 20), some (.int (iI k)), some (.int (iI ((24 + k : Nat) : Int))), some (.int (iI ((24 + k + 1 : Nat) : Int))), some (.int (iI i)), v5] [] := by
          intro m
          induction m with
          | zero =>
            intro i hi hq v5
            have hdj : ∀ v ∈ x.1.1, v ∉ y.1.1 := fun v hv => by
              obtain ⟨q, hq1, hq2⟩ := List.getElem_of_mem hv
              have := hq q (by omega)
              rw [List.getD_eq_getElem?_getD, List.getElem?_eq_getElem hq1] at this
              rw [← hq2]
              exact this
            refine C.iload dX9_melt_65 rfl ?_
            refine C.aload_n dX9_melt_67 rfl ?_
            refine C.mget hL gf_X9_9 dX9_melt_68 rfl ?_
            refine C.iload_n dX9_melt_71 rfl ?_
            refine C.maldk hL dX9_melt_72 (by decide) rfl (by decide) rfl (by omega) ?_
            refine C.topI (b := (x.1.1.length : Int)) ex ?_
            refine C.icmp_geI (tgt := 129) dX9_melt_73 (by decide) (by omega) (by omega) (fun hc73 => ?_) (fun hc73 => absurd hc73 (by omega))
            refine C.ic dX9_melt_129 ?_
            refine C.istore dX9_melt_130 (by decide) rfl ?_
            exact apl hdj y.1.1.length 0 sa (by omega) (fun a _ => rfl) (fun i _ => rfl) (fun i h => absurd h (by omega)) _
          | succ m ih =>
            intro i hi hq v5
            have := jl i (by omega) (fun hn => ih (i + 1) (by omega) (fun q hq2 => by
              by_cases hqi : q = i
              · subst hqi; exact hn
              · exact hq q (by omega)) _) y.1.1.length 0 (by omega) (fun q h => absurd h (by omega))
            refine C.iload dX9_melt_65 rfl ?_
            refine C.aload_n dX9_melt_67 rfl ?_
            refine C.mget hL gf_X9_9 dX9_melt_68 rfl ?_
            refine C.iload_n dX9_melt_71 rfl ?_
            refine C.maldk hL dX9_melt_72 (by decide) rfl (by decide) rfl (by omega) ?_
            refine C.topI (b := (x.1.1.length : Int)) ex ?_
            refine C.icmp_geI (tgt := 129) dX9_melt_73 (by decide) (by omega) (by omega) (fun hc73 => absurd hc73 (by omega)) (fun hc73 => ?_)
            refine C.ic dX9_melt_76 ?_
            refine C.istore dX9_melt_77 (by decide) rfl ?_
            exact this
        refine C.aload_n dX9_melt_0 rfl ?_
        refine C.ic dX9_melt_1 ?_
        refine C.mput hL pf_X9_59 dX9_melt_2 (by decide) rfl ?_
        refine C.aload_n dX9_melt_5 rfl ?_
        refine C.iload_n dX9_melt_6 rfl ?_
        refine C.mcall hL (hR) cw_X9_refuses ml_X9_301 im_X9_refuses sl_X9_refuses dX9_melt_7 rfl rfl (by omega) (Nat.le_refl _) (Nat.le_refl _) (Nat.le_of_ble_eq_true rfl) rfl (fun r7 sf7 sa7 hR7 => ?_)
        obtain ⟨rfl, hs, ha⟩ := hR7
        rw [hs, ha]
        clear hs ha
        refine C.if_neI (tgt := 23) dX9_melt_10 (by decide) (by decide) (fun hc10 => absurd hc10 (by decide)) (fun hc10 => ?_)
        refine C.iload_n dX9_melt_13 rfl ?_
        refine C.aload_n dX9_melt_14 rfl ?_
        refine C.mget hL gf_X9_232 dX9_melt_15 rfl ?_
        refine C.topI (b := (ys.length : Int)) h10 ?_
        refine C.ic dX9_melt_18 ?_
        refine C.isubI dX9_melt_19 ?_
        refine C.icmp_neI (tgt := 25) dX9_melt_20 (by decide) (by omega) (by omega) (fun hc20 => ?_) (fun hc20 => absurd hc20 hlast)
        refine C.bi dX9_melt_25 (by decide) ?_
        refine C.iload_n dX9_melt_27 rfl ?_
        refine C.iaddI dX9_melt_28 ?_
        refine C.topI (b := ((24 + k : Nat) : Int)) (by omega) ?_
        refine C.istore_n dX9_melt_29 (by decide) rfl ?_
        refine C.iload_n dX9_melt_30 rfl ?_
        refine C.ic dX9_melt_31 ?_
        refine C.iaddI dX9_melt_32 ?_
        refine C.topI (b := ((24 + k + 1 : Nat) : Int)) (by omega) ?_
        refine C.istore_n dX9_melt_33 (by decide) rfl ?_
        refine C.aload_n dX9_melt_34 rfl ?_
        refine C.iload_n dX9_melt_35 rfl ?_
        refine C.iload_n dX9_melt_36 rfl ?_
        refine C.mcall hL (hAl) cw_X9_areAlike ml_X9_304 im_X9_areAlike sl_X9_areAlike dX9_melt_37 rfl rfl (by omega) (Nat.le_refl _) (Nat.le_refl _) (Nat.le_of_ble_eq_true rfl) rfl (fun r37 sf37 sa37 hR37 => ?_)
        obtain ⟨rfl, hs, ha⟩ := hR37
        rw [hs, ha]
        clear hs ha
        refine C.if_eqI (tgt := 60) dX9_melt_40 (by decide) (by decide) (fun hc40 => absurd hc40 (by decide)) (fun hc40 => ?_)
        refine C.aload_n dX9_melt_43 rfl ?_
        refine C.mget hL gf_X9_9 dX9_melt_44 rfl ?_
        refine C.iload_n dX9_melt_47 rfl ?_
        refine C.maldk hL dX9_melt_48 (by decide) rfl (by decide) rfl (by omega) ?_
        refine C.topI (b := (x.1.1.length : Int)) ex ?_
        refine C.aload_n dX9_melt_49 rfl ?_
        refine C.mget hL gf_X9_9 dX9_melt_50 rfl ?_
        refine C.iload_n dX9_melt_53 rfl ?_
        refine C.maldk hL dX9_melt_54 (by decide) rfl (by decide) rfl (by omega) ?_
        refine C.topI (b := (y.1.1.length : Int)) ey ?_
        refine C.iaddI dX9_melt_55 ?_
        refine C.ic dX9_melt_56 ?_
        refine C.icmp_leI (tgt := 62) dX9_melt_57 (by decide) (by omega) (by omega) (fun hc57 => ?_) (fun hc57 => absurd hc57 (by omega))
        refine C.ic dX9_melt_62 ?_
        refine C.istore dX9_melt_63 (by decide) rfl ?_
        exact il x.1.1.length 0 (by omega) (fun q h => absurd h (by omega)) _
      · have hcm : canM x y = false := by unfold canM; rw [decide_eq_false h3, Bool.and_false]; rfl
        refine MM.of2 (by decide +kernel) rfl (Nat.le_of_ble_eq_true rfl) (fun L g hL X C => ?_)
        refine C.aload_n dX9_melt_0 rfl ?_
        refine C.ic dX9_melt_1 ?_
        refine C.mput hL pf_X9_59 dX9_melt_2 (by decide) rfl ?_
        refine C.aload_n dX9_melt_5 rfl ?_
        refine C.iload_n dX9_melt_6 rfl ?_
        refine C.mcall hL (hR) cw_X9_refuses ml_X9_301 im_X9_refuses sl_X9_refuses dX9_melt_7 rfl rfl (by omega) (Nat.le_refl _) (Nat.le_refl _) (Nat.le_of_ble_eq_true rfl) rfl (fun r7 sf7 sa7 hR7 => ?_)
        obtain ⟨rfl, hs, ha⟩ := hR7
        rw [hs, ha]
        clear hs ha
        refine C.if_neI (tgt := 23) dX9_melt_10 (by decide) (by decide) (fun hc10 => absurd hc10 (by decide)) (fun hc10 => ?_)
        refine C.iload_n dX9_melt_13 rfl ?_
        refine C.aload_n dX9_melt_14 rfl ?_
        refine C.mget hL gf_X9_232 dX9_melt_15 rfl ?_
        refine C.topI (b := (ys.length : Int)) h10 ?_
        refine C.ic dX9_melt_18 ?_
        refine C.isubI dX9_melt_19 ?_
        refine C.icmp_neI (tgt := 25) dX9_melt_20 (by decide) (by omega) (by omega) (fun hc20 => ?_) (fun hc20 => absurd hc20 hlast)
        refine C.bi dX9_melt_25 (by decide) ?_
        refine C.iload_n dX9_melt_27 rfl ?_
        refine C.iaddI dX9_melt_28 ?_
        refine C.topI (b := ((24 + k : Nat) : Int)) (by omega) ?_
        refine C.istore_n dX9_melt_29 (by decide) rfl ?_
        refine C.iload_n dX9_melt_30 rfl ?_
        refine C.ic dX9_melt_31 ?_
        refine C.iaddI dX9_melt_32 ?_
        refine C.topI (b := ((24 + k + 1 : Nat) : Int)) (by omega) ?_
        refine C.istore_n dX9_melt_33 (by decide) rfl ?_
        refine C.aload_n dX9_melt_34 rfl ?_
        refine C.iload_n dX9_melt_35 rfl ?_
        refine C.iload_n dX9_melt_36 rfl ?_
        refine C.mcall hL (hAl) cw_X9_areAlike ml_X9_304 im_X9_areAlike sl_X9_areAlike dX9_melt_37 rfl rfl (by omega) (Nat.le_refl _) (Nat.le_refl _) (Nat.le_of_ble_eq_true rfl) rfl (fun r37 sf37 sa37 hR37 => ?_)
        obtain ⟨rfl, hs, ha⟩ := hR37
        rw [hs, ha]
        clear hs ha
        refine C.if_eqI (tgt := 60) dX9_melt_40 (by decide) (by decide) (fun hc40 => absurd hc40 (by decide)) (fun hc40 => ?_)
        refine C.aload_n dX9_melt_43 rfl ?_
        refine C.mget hL gf_X9_9 dX9_melt_44 rfl ?_
        refine C.iload_n dX9_melt_47 rfl ?_
        refine C.maldk hL dX9_melt_48 (by decide) rfl (by decide) rfl (by omega) ?_
        refine C.topI (b := (x.1.1.length : Int)) ex ?_
        refine C.aload_n dX9_melt_49 rfl ?_
        refine C.mget hL gf_X9_9 dX9_melt_50 rfl ?_
        refine C.iload_n dX9_melt_53 rfl ?_
        refine C.maldk hL dX9_melt_54 (by decide) rfl (by decide) rfl (by omega) ?_
        refine C.topI (b := (y.1.1.length : Int)) ey ?_
        refine C.iaddI dX9_melt_55 ?_
        refine C.ic dX9_melt_56 ?_
        refine C.icmp_leI (tgt := 62) dX9_melt_57 (by decide) (by omega) (by omega) (fun hc57 => absurd hc57 (by omega)) (fun hc57 => ?_)
        refine C.ic dX9_melt_60 ?_
        refine C.retI rfl (by first | rfl | (exact (iI_bool (by first | exact Or.inl rfl | exact Or.inr rfl | assumption)).1)) dX9_melt_61 (Nat.le_refl _) (Nat.le_refl _) ⟨_, _, ?_, rfl, rfl⟩
        exact hno _ _ _ hcm rfl rfl rfl
  · have hR := m_refY (d := d - 1) (sa := sa) (by omega) hz h13 h10 ly hc
    refine MM.of2 (by decide +kernel) rfl (Nat.le_of_ble_eq_true rfl) (fun L g hL X C => ?_)
    refine C.aload_n dX9_melt_0 rfl ?_
    refine C.ic dX9_melt_1 ?_
    refine C.mput hL pf_X9_59 dX9_melt_2 (by decide) rfl ?_
    refine C.aload_n dX9_melt_5 rfl ?_
    refine C.iload_n dX9_melt_6 rfl ?_
    refine C.mcall hL (hR) cw_X9_refuses ml_X9_301 im_X9_refuses sl_X9_refuses dX9_melt_7 rfl rfl (by omega) (Nat.le_refl _) (Nat.le_refl _) (Nat.le_of_ble_eq_true rfl) rfl (fun r7 sf7 sa7 hR7 => ?_)
    obtain ⟨rfl, hs, ha⟩ := hR7
    rw [hs, ha]
    clear hs ha
    refine C.if_neI (tgt := 23) dX9_melt_10 (by decide) (by decide) (fun hc10 => ?_) (fun hc10 => absurd hc10 (by decide))
    refine C.ic dX9_melt_23 ?_
    refine C.retI rfl (by first | rfl | (exact (iI_bool (by first | exact Or.inl rfl | exact Or.inr rfl | assumption)).1)) dX9_melt_24 (Nat.le_refl _) (Nat.le_refl _) ⟨_, _, ?_, rfl, rfl⟩
    exact ⟨fun _ => ⟨rfl, rfl, rfl⟩, fun h => absurd h hc, fun h => absurd h hc⟩
