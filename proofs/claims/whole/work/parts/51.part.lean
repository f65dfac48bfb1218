/-- a sentence with one act alone -/
def wAct (x : Sen) (v : Int) : Sen := (([v], x.1.2), x.2)
def one1 (sa : SA) (s : Nat) (v : Int) : SA := va_up (va_up sa 22 (va_up (sa 22) (3 * s) v)) 21 (va_up (sa 21) s 1)
theorem one1_ne {sa : SA} {s a : Nat} {v : Int} (h1 : a ≠ 21) (h2 : a ≠ 22) : one1 sa s v a = sa a := by
  unfold one1
  rw [va_up_ne _ _ h1, va_up_ne _ _ h2]
theorem SenAt.one {sa : SA} {s : Nat} {x : Sen} {v : Int} (h : SenAt sa s x) : SenAt (one1 sa s v) s (wAct x v) := by
  obtain ⟨⟨b1, b2, b3, b4, b5⟩, q1, q2, q3⟩ := h
  have e : ∀ a, a ≠ 21 → a ≠ 22 → one1 sa s v a = sa a := fun a h1 h2 => one1_ne h1 h2
  refine ⟨⟨?_, fun k hk => ?_, by rw [e 23 (by decide) (by decide)]; exact b3, by rw [e 24 (by decide) (by decide)]; exact b4, by rw [e 26 (by decide) (by decide)]; exact b5⟩, by rw [e 25 (by decide) (by decide)]; exact q1, q2.keep (by rw [e 27 (by decide) (by decide)]) (fun j _ => by rw [e 28 (by decide) (by decide)]), q3.keep (by rw [e 27 (by decide) (by decide)]) (fun j _ => by rw [e 28 (by decide) (by decide)])⟩
  · unfold one1
    rw [va_up_self, va_up_self]
    rfl
  · have hk1 : k < 1 := hk
    obtain rfl : k = 0 := by omega
    unfold one1
    rw [va_up_ne _ _ (by decide), va_up_self, Nat.add_zero, va_up_self]
    rfl
theorem GbS.one {sa : SA} {s : Nat} {v : Int} : GbS sa (one1 sa s v) s := fun a j x1 x2 x3 x4 x5 x6 x7 => by
  unfold one1
  by_cases h1 : a = 21
  · subst h1
    rw [va_up_self, va_up_ne _ _ (fun e => x4 ⟨Or.inl rfl, e⟩)]
  rw [va_up_ne _ _ h1]
  by_cases h2 : a = 22
  · subst h2
    rw [va_up_self, va_up_ne _ _ (fun e => x5 ⟨rfl, by omega, by omega⟩)]
  rw [va_up_ne _ _ h2]
theorem SOk.wAct {x : Sen} (h : SOk x) {v : Int} (hv : v ∈ x.1.1) : SOk (wAct x v) := by
  obtain ⟨⟨⟨k1, k2, k3, k4⟩, k5⟩, k9⟩ := h
  refine ⟨⟨⟨by show 1 ≤ 3; omega, by show 1 ≤ 1; omega, fun w hw => ?_, by show [v].Nodup; simp⟩, k5⟩, k9⟩
  have hw2 : w ∈ [v] := hw
  have : w = v := by simpa using hw2
  rw [this]
  exact k3 v hv
def canP (n : Nat) (x : Sen) : Bool := decide (2 ≤ x.1.1.length) && decide (n + x.1.1.length - 1 ≤ 24)
def prt (ys : List Sen) (k : Nat) (x : Sen) : List Sen := ys.take k ++ x.1.1.map (wAct x) ++ ys.drop (k + 1)
set_option maxRecDepth 20000 in
set_option maxHeartbeats 2000000 in
theorem m_part {d : Nat} {ys : List Sen} {z : Int} {sf : SF} {sa : SA} (hd : 3 ≤ d) (hz : i3 z) (h13 : sf 13 = 0 ∨ sf 13 = 1) (h10 : sf 10 = ys.length) (hy : SensAt sa 24 ys) (ly : ys.length ≤ 24) (oky : ∀ x ∈ ys, SOk x) : MM yX9_part cX9_part 5 (some .boolean) d [.int (iI z)] sf sa (fun r sf' sa' => (rfC (sf 13) ys.length z ≠ 0 → r = some (.int (iI 0)) ∧ sf' = va_up sf 0 (rfC (sf 13) ys.length z) ∧ sa' = sa) ∧ (rfC (sf 13) ys.length z = 0 → ∀ x, ys[z.toNat]? = some x → r = some (.int (iI (b2i (canP ys.length x)))) ∧ sf' = (if canP ys.length x then va_up (va_up (va_up sf 0 0) 10 ((ys.length + x.1.1.length - 1 : Nat) : Int)) 12 (sf 12 + 1) else va_up sf 0 0) ∧ SensAt sa' 24 (if canP ys.length x then prt ys z.toNat x else ys) ∧ GbR 24 48 sa sa')) := by
  by_cases hc : rfC (sf 13) ys.length z = 0
  · have hR := m_refN (d := d - 1) (sa := sa) (by omega) hz h13 h10 ly hc
    obtain ⟨z0, z1⟩ := rfC_in hc
    obtain ⟨k, rfl⟩ : ∃ k : Nat, z = k := ⟨z.toNat, by omega⟩
    rw [Int.toNat_natCast]
    have hil : k < ys.length := by omega
    have hxi : ys[k]? = some ys[k] := List.getElem?_eq_getElem hil
    generalize ys[k] = x at hxi
    have hokx := oky x (List.mem_of_getElem? hxi)
    have hl3 := hokx.1.1.1
    have hl1 := hokx.1.1.2.1
    have hx0 := hy k x hxi
    have e21 : sa 21 (24 + k) = x.1.1.length := hx0.1.1
    by_cases hcan : canP ys.length x = true
    · have h2n : 2 ≤ x.1.1.length ∧ ys.length + x.1.1.length - 1 ≤ 24 := by
        unfold canP at hcan
        rw [Bool.and_eq_true, decide_eq_true_eq, decide_eq_true_eq] at hcan
        exact hcan
      generalize hn : x.1.1.length = n at *
      obtain ⟨h2, h24⟩ := h2n
      refine MM.of2 (by decide +kernel) rfl (Nat.le_of_ble_eq_true rfl) (fun L g hL X C => ?_)
      have lp2 : ∀ (m : Nat) (sac : SA), m ≤ n → GbR 24 48 sa sac → (1 ≤ m → SenAt sac (24 + k) x) → (∀ i, m ≤ i → i < n → SenAt sac (24 + k + i) (wAct x (x.1.1.getD i 0))) → (∀ i y, i < k → ys[i]? = some y → SenAt sac (24 + i) y) → (∀ i y, k < i → ys[i]? = some y → SenAt sac (24 + i + n - 1) y) → X 0 0 L (ov (va_up sf 0 0) sac g) 90 [some (.ref 20), some (.int (iI k)), some (.int (iI ((24 + k : Nat) : Int))), some (.int (iI n)), some (.int (iI ((m : Int) - 1)))] [] := by
        intro m
        induction m with
        | zero =>
          intro sac hm hg q1 q2 q3 q4
          refine C.iload dX9_part_90 rfl ?_
          refine C.if_ltI (tgt := 147) dX9_part_92 (by decide) (by omega) (fun hc92 => ?_) (fun hc92 => absurd hc92 (by omega))
          refine C.aload_n dX9_part_147 rfl ?_
          refine C.dup dX9_part_148 rfl ?_
          refine C.mget hL gf_X9_232 dX9_part_149 rfl ?_
          refine C.iload_n dX9_part_152 rfl ?_
          refine C.ic dX9_part_153 ?_
          refine C.isubI dX9_part_154 ?_
          refine C.topI (b := ((n : Int) - 1)) rfl ?_
          refine C.iaddI dX9_part_155 ?_
          refine C.topI (b := ((ys.length + n - 1 : Nat) : Int)) (by show sf 10 + _ = _; omega) ?_
          refine C.mput hL pf_X9_232 dX9_part_156 (by decide) rfl ?_
          refine C.aload_n dX9_part_159 rfl ?_
          refine C.dup dX9_part_160 rfl ?_
          refine C.mget hL gf_X9_226 dX9_part_161 rfl ?_
          refine C.ic dX9_part_164 ?_
          refine C.iaddI dX9_part_165 ?_
          refine C.mput hL pf_X9_226 dX9_part_166 (by decide) rfl ?_
          refine C.ic dX9_part_169 ?_
          refine C.retI rfl (by first | rfl | (exact (iI_bool (by first | exact Or.inl rfl | exact Or.inr rfl | assumption)).1)) dX9_part_170 (Nat.le_refl _) (Nat.le_refl _) ⟨_, _, ?_, rfl, rfl⟩
          refine ⟨fun h => absurd hc h, fun _ y hy2 => ?_⟩
          obtain rfl : x = y := Option.some.inj (hxi.symm.trans hy2)
          rw [hcan, hn]
          refine ⟨rfl, rfl, fun i y hi => ?_, hg⟩
          rw [if_pos rfl] at hi
          unfold prt at hi
          by_cases hi1 : i < k
          · rw [List.append_assoc, List.getElem?_append_left (by rw [List.length_take]; omega), List.getElem?_take_of_lt hi1] at hi
            exact q3 i y hi1 hi
          by_cases hi2 : i < k + n
          · rw [List.getElem?_append_left (by rw [List.length_append, List.length_take, List.length_map]; omega), List.getElem?_append_right (by rw [List.length_take]; omega), List.length_take, Nat.min_eq_left (by omega), List.getElem?_map, List.getElem?_eq_getElem (by omega)] at hi
            have := q2 (i - k) (by omega) (by omega)
            rw [List.getD_eq_getElem?_getD, List.getElem?_eq_getElem (by omega)] at this
            obtain rfl := Option.some.inj hi
            rw [show 24 + i = 24 + k + (i - k) by omega]
            exact this
          · rw [List.getElem?_append_right (by rw [List.length_append, List.length_take, List.length_map]; omega), List.length_append, List.length_take, List.length_map, Nat.min_eq_left (by omega), List.getElem?_drop] at hi
            have := q4 _ y (by omega) hi
            rw [show 24 + i = 24 + (k + 1 + (i - (k + x.1.1.length))) + n - 1 by omega]
            exact this
        | succ m ih =>
          intro sac hm hg q1 q2 q3 q4
          have hxs := q1 (by omega)
          have eact : sac 22 (3 * (24 + k) + m) = x.1.1.getD m 0 := hxs.1.2.1 m (by omega)
          have hmem : x.1.1.getD m 0 ∈ x.1.1 := by
            rw [List.getD_eq_getElem?_getD, List.getElem?_eq_getElem (by omega)]
            exact List.getElem_mem _
          by_cases hm0 : m = 0
          · subst hm0
            skip
            refine C.iload dX9_part_90 rfl ?_
            refine C.if_ltI (tgt := 147) dX9_part_92 (by decide) (by omega) (fun hc92 => absurd hc92 (by omega)) (fun hc92 => ?_)
            refine C.iload dX9_part_95 rfl ?_
            refine C.if_leI (tgt := 109) dX9_part_97 (by decide) (by omega) (fun hc97 => ?_) (fun hc97 => absurd hc97 (by omega))
            refine C.aload_n dX9_part_109 rfl ?_
            refine C.mget hL gf_X9_13 dX9_part_110 rfl ?_
            refine C.ic dX9_part_113 ?_
            refine C.iload_n dX9_part_114 rfl ?_
            refine C.iload dX9_part_115 rfl ?_
            refine C.iaddI dX9_part_117 ?_
            refine C.imulI dX9_part_118 ?_
            refine C.topI (b := ((3 * (24 + k) : Nat) : Int)) (by omega) ?_
            refine C.aload_n dX9_part_119 rfl ?_
            refine C.mget hL gf_X9_13 dX9_part_120 rfl ?_
            refine C.ic dX9_part_123 ?_
            refine C.iload_n dX9_part_124 rfl ?_
            refine C.imulI dX9_part_125 ?_
            refine C.iload dX9_part_126 rfl ?_
            refine C.iaddI dX9_part_128 ?_
            refine C.maldk hL (k := 3 * (24 + k) + 0) dX9_part_129 (by decide) rfl (by decide) (by omega) (by omega) ?_
            refine C.topI (b := x.1.1.getD 0 0) eact ?_
            refine C.mastk hL (ovs_22 _ _ _) dX9_part_130 (by decide) rfl (by decide) rfl (by omega) ?_
            refine C.aload_n dX9_part_131 rfl ?_
            refine C.mget hL gf_X9_9 dX9_part_132 rfl ?_
            refine C.iload_n dX9_part_135 rfl ?_
            refine C.iload dX9_part_136 rfl ?_
            refine C.iaddI dX9_part_138 ?_
            refine C.topI (b := ((24 + k : Nat) : Int)) (by omega) ?_
            refine C.ic dX9_part_139 ?_
            refine C.mastk hL (ovs_21 _ _ _) dX9_part_140 (by decide) rfl (by decide) rfl (by omega) ?_
            skip
            refine C.iincI dX9_part_141 rfl (by decide) rfl ?_
            refine C.goto (tgt := 90) dX9_part_144 (by decide) ?_
            have hS := hxs.one (v := x.1.1.getD 0 0)
            have hG : GbS sac (one1 sac (24 + k) (x.1.1.getD 0 0)) (24 + k) := GbS.one
            refine ih _ (by omega) (hg.tr (hG.R (by omega) (by omega))) (fun h => absurd h (by omega)) (fun i h1 h2 => ?_) (fun i y h1 h2 => (q3 i y h1 h2).S (oky y (List.mem_of_getElem? h2)).1.1.1 hG (by omega)) (fun i y h1 h2 => (q4 i y h1 h2).S (oky y (List.mem_of_getElem? h2)).1.1.1 hG (by omega))
            by_cases hi0 : i = 0
            · subst hi0
              exact hS
            · exact (q2 i (by omega) h2).S (show 1 ≤ 3 by omega) hG (by omega)
          · have hM := m_copiesS (d := d - 1) (sf := va_up sf 0 0) (fr := 24 + k) (to := 24 + k + m) (by omega) (by omega) hxs hokx
            refine C.iload dX9_part_90 rfl ?_
            refine C.if_ltI (tgt := 147) dX9_part_92 (by decide) (by omega) (fun hc92 => absurd hc92 (by omega)) (fun hc92 => ?_)
            refine C.iload dX9_part_95 rfl ?_
            refine C.if_leI (tgt := 109) dX9_part_97 (by decide) (by omega) (fun hc97 => absurd hc97 (by omega)) (fun hc97 => ?_)
            refine C.aload_n dX9_part_100 rfl ?_
            refine C.iload_n dX9_part_101 rfl ?_
            refine C.iload_n dX9_part_102 rfl ?_
            refine C.iload dX9_part_103 rfl ?_
            refine C.iaddI dX9_part_105 ?_
            refine C.topI (b := ((24 + k + m : Nat) : Int)) (by omega) ?_
            refine C.mcall hL (hM) cw_X9_copies ml_X9_213 im_X9_copies sl_X9_copies dX9_part_106 rfl rfl (by omega) (Nat.le_refl _) (Nat.le_refl _) (Nat.le_of_ble_eq_true rfl) rfl (fun r106 sf106 sa106 hR106 => ?_)
            obtain ⟨rfl, hs2, n1, n2⟩ := hR106
            rw [hs2]
            clear hs2
            have eact2 : sa106 22 (3 * (24 + k) + m) = x.1.1.getD m 0 := by rw [n2 22 _ (by decide) (by decide) (by decide) (by omega) (by omega) (by omega) (by omega)]; exact eact
            refine C.aload_n dX9_part_109 rfl ?_
            refine C.mget hL gf_X9_13 dX9_part_110 rfl ?_
            refine C.ic dX9_part_113 ?_
            refine C.iload_n dX9_part_114 rfl ?_
            refine C.iload dX9_part_115 rfl ?_
            refine C.iaddI dX9_part_117 ?_
            refine C.imulI dX9_part_118 ?_
            refine C.topI (b := ((3 * (24 + k + m) : Nat) : Int)) (by omega) ?_
            refine C.aload_n dX9_part_119 rfl ?_
            refine C.mget hL gf_X9_13 dX9_part_120 rfl ?_
            refine C.ic dX9_part_123 ?_
            refine C.iload_n dX9_part_124 rfl ?_
            refine C.imulI dX9_part_125 ?_
            refine C.iload dX9_part_126 rfl ?_
            refine C.iaddI dX9_part_128 ?_
            refine C.maldk hL (k := 3 * (24 + k) + m) dX9_part_129 (by decide) rfl (by decide) (by omega) (by omega) ?_
            refine C.topI (b := x.1.1.getD m 0) eact2 ?_
            refine C.mastk hL (ovs_22 _ _ _) dX9_part_130 (by decide) rfl (by decide) rfl (by omega) ?_
            refine C.aload_n dX9_part_131 rfl ?_
            refine C.mget hL gf_X9_9 dX9_part_132 rfl ?_
            refine C.iload_n dX9_part_135 rfl ?_
            refine C.iload dX9_part_136 rfl ?_
            refine C.iaddI dX9_part_138 ?_
            refine C.topI (b := ((24 + k + m : Nat) : Int)) (by omega) ?_
            refine C.ic dX9_part_139 ?_
            refine C.mastk hL (ovs_21 _ _ _) dX9_part_140 (by decide) rfl (by decide) rfl (by omega) ?_
            refine C.iincI dX9_part_141 rfl (by decide) rfl ?_
            refine C.goto (tgt := 90) dX9_part_144 (by decide) ?_
            have hS := n1.one (v := x.1.1.getD m 0)
            have hG : GbS sac (one1 sa106 (24 + k + m) (x.1.1.getD m 0)) (24 + k + m) := n2.tr GbS.one
            refine cast ?_ (ih (one1 sa106 (24 + k + m) (x.1.1.getD m 0)) (by omega) (hg.tr (hG.R (by omega) (by omega))) (fun h => hxs.S hokx.1.1.1 hG (by omega)) (fun i h1 h2 => ?_) (fun i y h1 h2 => (q3 i y h1 h2).S (oky y (List.mem_of_getElem? h2)).1.1.1 hG (by omega)) (fun i y h1 h2 => (q4 i y h1 h2).S (oky y (List.mem_of_getElem? h2)).1.1.1 hG (by omega)))
            · rw [show ((m + 1 : Nat) : Int) - 1 + -1 = (m : Int) - 1 by omega]
              rfl
            · by_cases him : i = m
              · subst him
                exact hS
              · exact (q2 i (by omega) h2).S (show 1 ≤ 3 by omega) hG (by omega)
      have lp1 : ∀ (m : Nat) (sac : SA), k + m < ys.length → GbR 24 48 sa sac → (∀ i y, i ≤ k + m → ys[i]? = some y → SenAt sac (24 + i) y) → (∀ i y, k + m < i → ys[i]? = some y → SenAt sac (24 + i + n - 1) y) → X 0 0 L (ov (va_up sf 0 0) sac g) 55 [some (.ref 20), some (.int (iI k)), some (.int (iI ((24 + k : Nat) : Int))), some (.int (iI n)), some (.int (iI ((k + m : Nat) : Int)))] [] := by
        intro m
        induction m with
        | zero =>
          intro sac hm hg q3 q4
          refine C.iload dX9_part_55 rfl ?_
          refine C.iload_n dX9_part_57 rfl ?_
          refine C.icmp_leI (tgt := 85) dX9_part_58 (by decide) (by omega) (by omega) (fun hc58 => ?_) (fun hc58 => absurd hc58 (by omega))
          refine C.iload_n dX9_part_85 rfl ?_
          refine C.ic dX9_part_86 ?_
          refine C.isubI dX9_part_87 ?_
          refine C.istore dX9_part_88 (by decide) rfl ?_
          exact lp2 n sac (by omega) hg (fun _ => q3 k x (by omega) hxi) (fun i h1 h2 => absurd h1 (by omega)) (fun i y h1 h2 => q3 i y (by omega) h2) q4
        | succ m ih =>
          intro sac hm hg q3 q4
          have hjl : k + (m + 1) < ys.length := hm
          have hyj : ys[k + (m + 1)]? = some ys[k + (m + 1)] := List.getElem?_eq_getElem hjl
          generalize ys[k + (m + 1)] = yj at hyj
          have hM := m_copiesS (d := d - 1) (sf := va_up sf 0 0) (fr := 24 + (k + (m + 1))) (to := 24 + (k + (m + 1)) + n - 1) (by omega) (by omega) (q3 _ yj (by omega) hyj) (oky yj (List.mem_of_getElem? hyj))
          refine C.iload dX9_part_55 rfl ?_
          refine C.iload_n dX9_part_57 rfl ?_
          refine C.icmp_leI (tgt := 85) dX9_part_58 (by decide) (by omega) (by omega) (fun hc58 => absurd hc58 (by omega)) (fun hc58 => ?_)
          refine C.aload_n dX9_part_61 rfl ?_
          refine C.bi dX9_part_62 (by decide) ?_
          refine C.iload dX9_part_64 rfl ?_
          refine C.iaddI dX9_part_66 ?_
          refine C.topI (b := ((24 + (k + (m + 1)) : Nat) : Int)) (by omega) ?_
          refine C.bi dX9_part_67 (by decide) ?_
          refine C.iload dX9_part_69 rfl ?_
          refine C.iaddI dX9_part_71 ?_
          refine C.iload_n dX9_part_72 rfl ?_
          refine C.iaddI dX9_part_73 ?_
          refine C.ic dX9_part_74 ?_
          refine C.isubI dX9_part_75 ?_
          refine C.topI (b := ((24 + (k + (m + 1)) + n - 1 : Nat) : Int)) (by omega) ?_
          refine C.mcall hL (hM) cw_X9_copies ml_X9_213 im_X9_copies sl_X9_copies dX9_part_76 rfl rfl (by omega) (Nat.le_refl _) (Nat.le_refl _) (Nat.le_of_ble_eq_true rfl) rfl (fun r76 sf76 sa76 hR76 => ?_)
          obtain ⟨rfl, hs2, n1, n2⟩ := hR76
          rw [hs2]
          clear hs2
          refine C.iincI dX9_part_79 rfl (by decide) rfl ?_
          refine C.goto (tgt := 55) dX9_part_82 (by decide) ?_
          refine cast ?_ (ih sa76 (by omega) (hg.tr (n2.R (by omega) (by omega))) (fun i y h1 h2 => (q3 i y (by omega) h2).S (oky y (List.mem_of_getElem? h2)).1.1.1 n2 (by omega)) (fun i y h1 h2 => ?_))
          · rw [show ((k + (m + 1) : Nat) : Int) + -1 = ((k + m : Nat) : Int) by omega]
            rfl
          · by_cases hij : i = k + (m + 1)
            · subst hij
              obtain rfl : yj = y := Option.some.inj (hyj.symm.trans h2)
              exact n1
            · exact (q4 i y (by omega) h2).S (oky y (List.mem_of_getElem? h2)).1.1.1 n2 (by omega)
      refine C.aload_n dX9_part_0 rfl ?_
      refine C.ic dX9_part_1 ?_
      refine C.mput hL pf_X9_59 dX9_part_2 (by decide) rfl ?_
      refine C.aload_n dX9_part_5 rfl ?_
      refine C.iload_n dX9_part_6 rfl ?_
      refine C.mcall hL (hR) cw_X9_refuses ml_X9_301 im_X9_refuses sl_X9_refuses dX9_part_7 rfl rfl (by omega) (Nat.le_refl _) (Nat.le_refl _) (Nat.le_of_ble_eq_true rfl) rfl (fun r7 sf7 sa7 hR7 => ?_)
      obtain ⟨rfl, hs, ha⟩ := hR7
      rw [hs, ha]
      clear hs ha
      refine C.if_eqI (tgt := 15) dX9_part_10 (by decide) (by decide) (fun hc10 => ?_) (fun hc10 => absurd hc10 (by decide))
      refine C.bi dX9_part_15 (by decide) ?_
      refine C.iload_n dX9_part_17 rfl ?_
      refine C.iaddI dX9_part_18 ?_
      refine C.topI (b := ((24 + k : Nat) : Int)) (by omega) ?_
      refine C.istore_n dX9_part_19 (by decide) rfl ?_
      refine C.aload_n dX9_part_20 rfl ?_
      refine C.mget hL gf_X9_9 dX9_part_21 rfl ?_
      refine C.iload_n dX9_part_24 rfl ?_
      refine C.maldk hL dX9_part_25 (by decide) rfl (by decide) rfl (by omega) ?_
      refine C.topI (b := (n : Int)) e21 ?_
      refine C.istore_n dX9_part_26 (by decide) rfl ?_
      refine C.iload_n dX9_part_27 rfl ?_
      refine C.ic dX9_part_28 ?_
      refine C.icmp_ltI (tgt := 45) dX9_part_29 (by decide) (by omega) (by omega) (fun hc29 => absurd hc29 (by omega)) (fun hc29 => ?_)
      refine C.aload_n dX9_part_32 rfl ?_
      refine C.mget hL gf_X9_232 dX9_part_33 rfl ?_
      refine C.topI (b := (ys.length : Int)) h10 ?_
      refine C.iload_n dX9_part_36 rfl ?_
      refine C.iaddI dX9_part_37 ?_
      refine C.ic dX9_part_38 ?_
      refine C.isubI dX9_part_39 ?_
      refine C.bi dX9_part_40 (by decide) ?_
      refine C.icmp_leI (tgt := 47) dX9_part_42 (by decide) (by omega) (by omega) (fun hc42 => ?_) (fun hc42 => absurd hc42 (by omega))
      refine C.aload_n dX9_part_47 rfl ?_
      refine C.mget hL gf_X9_232 dX9_part_48 rfl ?_
      refine C.topI (b := (ys.length : Int)) h10 ?_
      refine C.ic dX9_part_51 ?_
      refine C.isubI dX9_part_52 ?_
      refine C.topI (b := ((k + (ys.length - 1 - k) : Nat) : Int)) (by omega) ?_
      refine C.istore dX9_part_53 (by decide) rfl ?_
      exact lp1 (ys.length - 1 - k) sa (by omega) GbR.rf (fun i y _ h => hy i y h) (fun i y h1 h2 => absurd (List.getElem?_eq_some_iff.mp h2).1 (by omega))
    · have hcf : canP ys.length x = false := by simpa using hcan
      have hno : ¬ (2 ≤ x.1.1.length ∧ ys.length + x.1.1.length - 1 ≤ 24) := fun h => hcan (by unfold canP; rw [Bool.and_eq_true, decide_eq_true_eq, decide_eq_true_eq]; exact h)
      refine MM.of2 (by decide +kernel) rfl (Nat.le_of_ble_eq_true rfl) (fun L g hL X C => ?_)
      refine C.aload_n dX9_part_0 rfl ?_
      refine C.ic dX9_part_1 ?_
      refine C.mput hL pf_X9_59 dX9_part_2 (by decide) rfl ?_
      refine C.aload_n dX9_part_5 rfl ?_
      refine C.iload_n dX9_part_6 rfl ?_
      refine C.mcall hL (hR) cw_X9_refuses ml_X9_301 im_X9_refuses sl_X9_refuses dX9_part_7 rfl rfl (by omega) (Nat.le_refl _) (Nat.le_refl _) (Nat.le_of_ble_eq_true rfl) rfl (fun r7 sf7 sa7 hR7 => ?_)
      obtain ⟨rfl, hs, ha⟩ := hR7
      rw [hs, ha]
      clear hs ha
      refine C.if_eqI (tgt := 15) dX9_part_10 (by decide) (by decide) (fun hc10 => ?_) (fun hc10 => absurd hc10 (by decide))
      refine C.bi dX9_part_15 (by decide) ?_
      refine C.iload_n dX9_part_17 rfl ?_
      refine C.iaddI dX9_part_18 ?_
      refine C.topI (b := ((24 + k : Nat) : Int)) (by omega) ?_
      refine C.istore_n dX9_part_19 (by decide) rfl ?_
      refine C.aload_n dX9_part_20 rfl ?_
      refine C.mget hL gf_X9_9 dX9_part_21 rfl ?_
      refine C.iload_n dX9_part_24 rfl ?_
      refine C.maldk hL dX9_part_25 (by decide) rfl (by decide) rfl (by omega) ?_
      refine C.topI (b := (x.1.1.length : Int)) e21 ?_
      refine C.istore_n dX9_part_26 (by decide) rfl ?_
      refine C.iload_n dX9_part_27 rfl ?_
      refine C.ic dX9_part_28 ?_
      refine C.icmp_ltI (tgt := 45) dX9_part_29 (by decide) (by omega) (by omega) (fun hc29 => ?_) (fun hc29 => ?_)
      · refine C.ic dX9_part_45 ?_
        refine C.retI rfl (by first | rfl | (exact (iI_bool (by first | exact Or.inl rfl | exact Or.inr rfl | assumption)).1)) dX9_part_46 (Nat.le_refl _) (Nat.le_refl _) ⟨_, _, ?_, rfl, rfl⟩
        refine ⟨fun h => absurd hc h, fun _ y hy2 => ?_⟩
        obtain rfl : x = y := Option.some.inj (hxi.symm.trans hy2)
        rw [hcf]
        exact ⟨rfl, rfl, hy, GbR.rf⟩
      · refine C.aload_n dX9_part_32 rfl ?_
        refine C.mget hL gf_X9_232 dX9_part_33 rfl ?_
        refine C.topI (b := (ys.length : Int)) h10 ?_
        refine C.iload_n dX9_part_36 rfl ?_
        refine C.iaddI dX9_part_37 ?_
        refine C.ic dX9_part_38 ?_
        refine C.isubI dX9_part_39 ?_
        refine C.bi dX9_part_40 (by decide) ?_
        refine C.icmp_leI (tgt := 47) dX9_part_42 (by decide) (by omega) (by omega) (fun hc42 => absurd hc42 (by omega)) (fun hc42 => ?_)
        refine C.ic dX9_part_45 ?_
        refine C.retI rfl (by first | rfl | (exact (iI_bool (by first | exact Or.inl rfl | exact Or.inr rfl | assumption)).1)) dX9_part_46 (Nat.le_refl _) (Nat.le_refl _) ⟨_, _, ?_, rfl, rfl⟩
        refine ⟨fun h => absurd hc h, fun _ y hy2 => ?_⟩
        obtain rfl : x = y := Option.some.inj (hxi.symm.trans hy2)
        rw [hcf]
        exact ⟨rfl, rfl, hy, GbR.rf⟩
  · have hR := m_refY (d := d - 1) (sa := sa) (by omega) hz h13 h10 ly hc
    refine MM.of2 (by decide +kernel) rfl (Nat.le_of_ble_eq_true rfl) (fun L g hL X C => ?_)
    refine C.aload_n dX9_part_0 rfl ?_
    refine C.ic dX9_part_1 ?_
    refine C.mput hL pf_X9_59 dX9_part_2 (by decide) rfl ?_
    refine C.aload_n dX9_part_5 rfl ?_
    refine C.iload_n dX9_part_6 rfl ?_
    refine C.mcall hL (hR) cw_X9_refuses ml_X9_301 im_X9_refuses sl_X9_refuses dX9_part_7 rfl rfl (by omega) (Nat.le_refl _) (Nat.le_refl _) (Nat.le_of_ble_eq_true rfl) rfl (fun r7 sf7 sa7 hR7 => ?_)
    obtain ⟨rfl, hs, ha⟩ := hR7
    rw [hs, ha]
    clear hs ha
    refine C.if_eqI (tgt := 15) dX9_part_10 (by decide) (by decide) (fun hc10 => absurd hc10 (by decide)) (fun hc10 => ?_)
    refine C.ic dX9_part_13 ?_
    refine C.retI rfl (by first | rfl | (exact (iI_bool (by first | exact Or.inl rfl | exact Or.inr rfl | assumption)).1)) dX9_part_14 (Nat.le_refl _) (Nat.le_refl _) ⟨_, _, ?_, rfl, rfl⟩
    exact ⟨fun _ => ⟨rfl, rfl, rfl⟩, fun h => absurd h hc⟩
