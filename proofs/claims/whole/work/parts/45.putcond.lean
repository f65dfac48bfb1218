/-- a condition's text (m: 0 alone, 1 within an and, 2 within an or, 3 behind a not) -/
def wt : TT → Nat → Bool → List Int
  | .count n, _, f => sp f ++ zCase ++ [32, 48 + (n : Int)]
  | .not c, _, f => sp f ++ zNot ++ wt c 3 true
  | .and a b, m, f => if m = 3 then sp f ++ [40] ++ (wt a 1 false ++ (32 :: zAnd ++ wt b 1 true)) ++ [41] else wt a 1 f ++ (32 :: zAnd ++ wt b 1 true)
  | .or a b, m, f => if m = 3 ∨ m = 1 then sp f ++ [40] ++ (wt a 2 false ++ (32 :: zOr ++ wt b 2 true)) ++ [41] else wt a 2 f ++ (32 :: zOr ++ wt b 2 true)
  | _, _, _ => []
/-- a row's pieces, told one behind the other -/
def jt (z : List Int) (m : Nat) (xs : List TT) : List Int := xs.flatMap (fun y => 32 :: z ++ wt y m true)
def jn (z : List Int) (m : Nat) (f : Bool) : List TT → List Int
  | [] => []
  | x :: xs => wt x m f ++ jt z m xs
theorem jt_app (z : List Int) (m : Nat) (xs ys : List TT) : jt z m (xs ++ ys) = jt z m xs ++ jt z m ys := by unfold jt; rw [List.flatMap_append]
theorem jn_app {z : List Int} {m : Nat} {f : Bool} {xs ys : List TT} (h : xs ≠ []) : jn z m f (xs ++ ys) = jn z m f xs ++ jt z m ys := by
  cases xs with
  | nil => exact absurd rfl h
  | cons x xs => simp only [List.cons_append, jn, jt_app, List.append_assoc]
theorem jt_jn {z : List Int} {m : Nat} {xs : List TT} (h : xs ≠ []) : jt z m xs = 32 :: z ++ jn z m true xs := by
  cases xs with
  | nil => exact absurd rfl h
  | cons x xs => simp only [jt, jn, List.flatMap_cons, List.append_assoc]
theorem andL_ne (t : TT) : andL t ≠ [] := by
  intro h
  have := andL_len t
  have h2 := nA_le t
  rw [h] at this
  simp at this
  omega
theorem orL_ne (t : TT) : orL t ≠ [] := by
  intro h
  have := orL_len t
  have h2 := nO_le t
  rw [h] at this
  simp at this
  omega
theorem wt_and (t : TT) (f : Bool) : wt t 1 f = jn zAnd 1 f (andL t) := by
  induction t generalizing f with
  | and a b iha ihb =>
    rw [show andL (.and a b) = andL a ++ andL b from rfl, jn_app (andL_ne a), jt_jn (andL_ne b), ← iha, ← ihb]
    simp only [wt]
    rw [if_neg (by decide)]
  | _ => simp only [andL, jn, jt, List.flatMap_nil, List.append_nil]
theorem wt_or (t : TT) (f : Bool) : wt t 2 f = jn zOr 2 f (orL t) := by
  induction t generalizing f with
  | or a b iha ihb =>
    rw [show orL (.or a b) = orL a ++ orL b from rfl, jn_app (orL_ne a), jt_jn (orL_ne b), ← iha, ← ihb]
    simp only [wt]
    rw [if_neg (by decide)]
  | _ => simp only [orL, jn, jt, List.flatMap_nil, List.append_nil]
def jw (xs : List TT) : Nat := (xs.map (fun y => wd y + 1)).sum
theorem jw_app (xs ys : List TT) : jw (xs ++ ys) = jw xs + jw ys := by unfold jw; rw [List.map_append, List.sum_append]
theorem wd_and (t : TT) : jw (andL t) = wd t + 1 := by
  induction t with
  | and a b iha ihb =>
    rw [show andL (.and a b) = andL a ++ andL b from rfl, jw_app, iha, ihb]
    simp only [wd]
    omega
  | _ => simp [andL, jw]
theorem wd_or (t : TT) : jw (orL t) = wd t + 1 := by
  induction t with
  | or a b iha ihb =>
    rw [show orL (.or a b) = orL a ++ orL b from rfl, jw_app, iha, ihb]
    simp only [wd]
    omega
  | _ => simp [orL, jw]
def oV (m : Nat) : Int := if m = 0 then 0 else if m = 1 then 1000 else if m = 2 then 2000 else 10
theorem fl1 {n : Nat} (h : 0 < n) : (!false && decide (0 < n)) = true := by simp [h]
theorem tCase : TX 18 zCase := ⟨⟨_, rfl, by decide⟩, by decide, by decide⟩
theorem tOr : TX 20 zOr := ⟨⟨_, rfl, by decide⟩, by decide, by decide⟩
theorem dgL_1 {v : Int} (h : 0 ≤ v ∧ v ≤ 9) : dgL v = [48 + v] := by
  unfold dgL
  rw [if_neg (by omega), if_neg (by omega)]
  congr 1
  omega
theorem wrS_app2 {sa : SA} {a b c : Nat} {xs ys : List Int} (h : c = b + xs.length) : wrS (wrS sa a b xs) a c ys = wrS sa a b (xs ++ ys) := by rw [h, wrS_app]
theorem flat_code {xs : List TT} {sa : SA} {b : Nat} : ∀ {x : TT}, (∀ j, j < ((x :: xs).flatMap (fun x => cd x 0)).length → sa 28 (b + j) = ((x :: xs).flatMap (fun x => cd x 0)).getD j 0) → (∀ j, j < (cd x 0).length → sa 28 (b + j) = (cd x 0).getD j 0) ∧ ∀ j, j < (xs.flatMap (fun x => cd x 0)).length → sa 28 (b + (cd x 0).length + j) = (xs.flatMap (fun x => cd x 0)).getD j 0 := by
  intro x h
  rw [List.flatMap_cons] at h
  refine ⟨fun j hj => ?_, fun j hj => ?_⟩
  · have := h j (by rw [List.length_append]; omega)
    rw [this, List.getD_eq_getElem?_getD, List.getD_eq_getElem?_getD, List.getElem?_append_left hj]
  · have := h ((cd x 0).length + j) (by rw [List.length_append]; omega)
    rw [← Nat.add_assoc] at this
    rw [this, List.getD_eq_getElem?_getD, List.getD_eq_getElem?_getD, List.getElem?_append_right (by omega)]
    congr 2
    omega
theorem wt_len (t : TT) (ht : isT t) (m : Nat) (f : Bool) : 1 ≤ (wt t m f).length := by
  revert m f
  refine isT_ind (P := fun t => ∀ m f, 1 ≤ (wt t m f).length) ?_ ?_ ?_ ?_ t ht
  · intro n _ m f; simp [wt]
  · intro c _ _ m f; simp [wt]; omega
  · intro a b _ _ _ _ m f
    simp only [wt]
    split <;> simp <;> omega
  · intro a b _ _ _ _ m f
    simp only [wt]
    split <;> simp <;> omega
set_option maxRecDepth 20000 in
set_option maxHeartbeats 4000000 in
theorem m_putCond : ∀ (N : Nat) {d b ac n w m : Nat} {t : TT} {bo : Bool} {s0 sf : SF} {sa : SA}, N + 6 ≤ d → isT t → (cd t 0).length ≤ N → (cd t 0).length ≤ 400 → m ≤ 3 → Wv s0 sf ac n w (b2i bo) → b + ac + (cd t 0).length ≤ 84000 → (∀ j, j < (cd t 0).length → sa 28 (b + ac + j) = (cd t 0).getD j 0) → n + (wt t m (!bo && decide (0 < n))).length + 4 ≤ 9000 → MM yX9_putCond cX9_putCond 7 none d [.int (iI b), .int (iI (oV m))] sf sa (fun r sf' sa' => r = none ∧ Wv s0 sf' ((ac + (cd t 0).length : Nat) : Int) ((n + (wt t m (!bo && decide (0 < n))).length : Nat) : Int) ((w + wd t : Nat) : Int) 0 ∧ sa' = wrS sa 34 n (wt t m (!bo && decide (0 < n)))) := by
  intro N
  induction N with
  | zero =>
    intro d b ac n w m t bo s0 sf sa hd ht hl
    have := cd_len t ht 0
    omega
  | succ N ihN =>
    intro d b ac n w m t bo s0 sf sa hd ht hl hl4 hm hW hb hcode hroom
    generalize hf : (!bo && decide (0 < n)) = f at hroom ⊢
    have h18 := hW.2.1
    rcases isT_small ht with ⟨c, hc, rfl⟩ | ⟨c, hc, rfl⟩ | ⟨x, y, hx, hy, rfl⟩ | ⟨x, y, hx, hy, rfl⟩
    · have e0 : sa 28 (b + ac) = (c : Int) := hcode 0 (by simp [cd])
      simp only [wt, List.length_append, List.length_cons, List.length_nil] at hroom
      have hM := m_putWord (d := d - 1) (sf := va_up sf 18 ((ac : Int) + 1)) (sa := sa) (by omega) hW.up18 tCase (by simp; omega)
      rw [hf] at hM
      refine MM.of2 (by decide +kernel) rfl (Nat.le_of_ble_eq_true rfl) (fun L g hL X C => ?_)
      refine C.aload_n dX9_putCond_0 rfl ?_
      refine C.mget hL gf_X9_33 dX9_putCond_1 rfl ?_
      refine C.iload_n dX9_putCond_4 rfl ?_
      refine C.aload_n dX9_putCond_5 rfl ?_
      refine C.mget hL gf_X9_65 dX9_putCond_6 rfl ?_
      refine C.topI (b := (ac : Int)) h18 ?_
      refine C.iaddI dX9_putCond_9 ?_
      refine C.maldk hL (k := b + ac) dX9_putCond_10 (by decide) rfl (by decide) (by omega) (by simp [cd] at hb; omega) ?_
      refine C.topI (b := (c : Int)) e0 ?_
      refine C.istore_n dX9_putCond_11 (by decide) rfl ?_
      refine C.aload_n dX9_putCond_12 rfl ?_
      refine C.dup dX9_putCond_13 rfl ?_
      refine C.mget hL gf_X9_65 dX9_putCond_14 rfl ?_
      refine C.topI (b := (ac : Int)) h18 ?_
      refine C.ic dX9_putCond_17 ?_
      refine C.iaddI dX9_putCond_18 ?_
      refine C.mput hL pf_X9_65 dX9_putCond_19 (by decide) rfl ?_
      refine C.iload_n dX9_putCond_22 rfl ?_
      refine C.bi dX9_putCond_23 (by decide) ?_
      refine C.icmp_geI (tgt := 40) dX9_putCond_25 (by decide) (by omega) (by omega) (fun hc25 => absurd hc25 (by omega)) (fun hc25 => ?_)
      refine C.aload_n dX9_putCond_28 rfl ?_
      refine C.lds dX9_putCond_29 (j := 18) rfl ?_
      refine C.mcall hL (hM) cw_X9_putWord ml_X9_250 im_X9_putWord sl_X9_putWord dX9_putCond_31 rfl rfl (by omega) (Nat.le_refl _) (Nat.le_refl _) (Nat.le_of_ble_eq_true rfl) rfl (fun r31 sf31 sa31 hR31 => ?_)
      obtain ⟨rfl, hs, ha⟩ := hR31
      rw [ha]
      clear ha
      have hN := m_putNumber (d := d - 1) (sa := wrS sa 34 n (sp f ++ zCase)) hs (v := c) (by omega) (by simp; omega)
      rw [dgL_1 (by omega)] at hN
      refine C.aload_n dX9_putCond_34 rfl ?_
      refine C.iload_n dX9_putCond_35 rfl ?_
      refine C.mcall hL (hN) cw_X9_putNumber ml_X9_254 im_X9_putNumber sl_X9_putNumber dX9_putCond_36 rfl rfl (by omega) (Nat.le_refl _) (Nat.le_refl _) (Nat.le_of_ble_eq_true rfl) rfl (fun r36 sf36 sa36 hR36 => ?_)
      obtain ⟨rfl, hs2, ha⟩ := hR36
      rw [ha, wrS_app]
      clear ha
      refine C.vret rfl dX9_putCond_39 (Nat.le_refl _) (Nat.le_refl _) ⟨_, _, ?_, rfl, rfl⟩
      refine ⟨rfl, ?_, ?_⟩
      · simp only [wt, cd, wd]
        rw [List.length_append, ← Nat.add_assoc]
        exact hs2
      · simp only [wt]
    · have e0 : sa 28 (b + ac) = 10 := hcode 0 (by simp [cd])
      simp only [wt, List.length_append, List.length_cons, List.length_nil] at hroom
      have hcl : (cd (.not c) 0).length = (cd c 0).length + 1 := by simp [cd]
      have hM := m_putWord (d := d - 1) (sf := va_up sf 18 ((ac : Int) + 1)) (sa := sa) (by omega) hW.up18 tNot (by simp; omega)
      rw [hf] at hM
      refine MM.of2 (by decide +kernel) rfl (Nat.le_of_ble_eq_true rfl) (fun L g hL X C => ?_)
      refine C.aload_n dX9_putCond_0 rfl ?_
      refine C.mget hL gf_X9_33 dX9_putCond_1 rfl ?_
      refine C.iload_n dX9_putCond_4 rfl ?_
      refine C.aload_n dX9_putCond_5 rfl ?_
      refine C.mget hL gf_X9_65 dX9_putCond_6 rfl ?_
      refine C.topI (b := (ac : Int)) h18 ?_
      refine C.iaddI dX9_putCond_9 ?_
      refine C.maldk hL (k := b + ac) dX9_putCond_10 (by decide) rfl (by decide) (by omega) (by omega) ?_
      refine C.topI (b := 10) e0 ?_
      refine C.istore_n dX9_putCond_11 (by decide) rfl ?_
      refine C.aload_n dX9_putCond_12 rfl ?_
      refine C.dup dX9_putCond_13 rfl ?_
      refine C.mget hL gf_X9_65 dX9_putCond_14 rfl ?_
      refine C.topI (b := (ac : Int)) h18 ?_
      refine C.ic dX9_putCond_17 ?_
      refine C.iaddI dX9_putCond_18 ?_
      refine C.mput hL pf_X9_65 dX9_putCond_19 (by decide) rfl ?_
      refine C.iload_n dX9_putCond_22 rfl ?_
      refine C.bi dX9_putCond_23 (by decide) ?_
      refine C.icmp_geI (tgt := 40) dX9_putCond_25 (by decide) (by omega) (by omega) (fun hc25 => ?_) (fun hc25 => absurd hc25 (by omega))
      refine C.iload_n dX9_putCond_40 rfl ?_
      refine C.bi dX9_putCond_41 (by decide) ?_
      refine C.icmp_neI (tgt := 60) dX9_putCond_43 (by decide) (by omega) (by omega) (fun hc43 => absurd hc43 (by omega)) (fun hc43 => ?_)
      refine C.aload_n dX9_putCond_46 rfl ?_
      refine C.lds dX9_putCond_47 (j := 17) rfl ?_
      refine C.mcall hL (hM) cw_X9_putWord ml_X9_250 im_X9_putWord sl_X9_putWord dX9_putCond_49 rfl rfl (by omega) (Nat.le_refl _) (Nat.le_refl _) (Nat.le_of_ble_eq_true rfl) rfl (fun r49 sf49 sa49 hR49 => ?_)
      obtain ⟨rfl, hs, ha⟩ := hR49
      rw [ha]
      clear ha
      have hn0 : 0 < n + (sp f ++ zNot).length := by simp; omega
      have hC := ihN (d := d - 1) (b := b) (ac := ac + 1) (m := 3) (t := c) (bo := false) (sf := sf49) (sa := wrS sa 34 n (sp f ++ zNot)) (by omega) hc (by omega) (by omega) (by omega) hs (by omega) (fun j hj => by
        rw [wrS_ne (by decide)]
        have := hcode (j + 1) (by omega)
        simp only [cd, List.getD_cons_succ] at this
        rw [← this]
        congr 1
        omega) (by rw [fl1 hn0]; simp; omega)
      rw [fl1 hn0] at hC
      refine C.aload_n dX9_putCond_52 rfl ?_
      refine C.iload_n dX9_putCond_53 rfl ?_
      refine C.bi dX9_putCond_54 (by decide) ?_
      refine C.mcall hL (hC) cw_X9_putCond ml_X9_258 im_X9_putCond sl_X9_putCond dX9_putCond_56 rfl rfl (by omega) (Nat.le_refl _) (Nat.le_refl _) (Nat.le_of_ble_eq_true rfl) rfl (fun r56 sf56 sa56 hR56 => ?_)
      obtain ⟨rfl, hs2, ha⟩ := hR56
      rw [ha, wrS_app]
      clear ha
      refine C.vret rfl dX9_putCond_59 (Nat.le_refl _) (Nat.le_refl _) ⟨_, _, ?_, rfl, rfl⟩
      refine ⟨rfl, ?_, ?_⟩
      · simp only [wt, wd]
        rw [List.length_append, ← Nat.add_assoc, hcl, show w + (wd c + 1) = w + 1 + wd c by omega, show ac + ((cd c 0).length + 1) = ac + 1 + (cd c 0).length by omega]
        exact hs2
      · simp only [wt]
    · skip
      have hcd : cd (.and x y) 0 = (1000 + ((nA (.and x y) : Nat) : Int)) :: (andL (.and x y)).flatMap (fun x => cd x 0) := by
        rw [← cd_andL]
        simp only [cd, nA]
        rfl
      have e0 : sa 28 (b + ac) = 1000 + ((nA (.and x y) : Nat) : Int) := by
        have := hcode 0 (by rw [hcd]; simp)
        rw [hcd] at this
        exact this
      have hpl : (andL (.and x y)).length = nA (.and x y) := andL_len _
      have hpT := andL_isT (t := .and x y) ⟨hx, hy⟩
      have hlen : (cd (.and x y) 0).length = 1 + ((andL (.and x y)).flatMap (fun x => cd x 0)).length := by rw [hcd]; simp [Nat.add_comm]
      have hpw := wd_and (.and x y)
      have hpt := wt_and (.and x y)
      have hne := andL_ne (.and x y)
      have hlp := len_pieces hpT
      have hcode' : ∀ j, j < ((andL (.and x y)).flatMap (fun x => cd x 0)).length → sa 28 (b + (ac + 1) + j) = ((andL (.and x y)).flatMap (fun x => cd x 0)).getD j 0 := fun j hj => by
        have := hcode (j + 1) (by omega)
        rw [hcd, List.getD_cons_succ] at this
        rw [← this]
        congr 1
        omega
      have hfl : ∀ z ∈ andL (.and x y), (cd z 0).length ≤ ((andL (.and x y)).flatMap (fun x => cd x 0)).length := fun z hz => flatMap_mem_len hz
      generalize hmany : nA (.and x y) = many at *
      generalize hps : andL (.and x y) = ps at *
      have hmb : many ≤ 400 := by omega
      have hwt : wt (.and x y) m f = if m = 3 then sp f ++ [40] ++ wt (.and x y) 1 false ++ [41] else wt (.and x y) 1 f := by
        simp only [wt]
        split <;> rfl
      rw [hpt, hpt] at hwt
      rw [hwt] at hroom ⊢
      refine MM.of2 (by decide +kernel) rfl (Nat.le_of_ble_eq_true rfl) (fun L g hL X C => ?_)
      have loop : ∀ (lv : Option Value) (rd : Int) (lim : Nat) (T0 : List Int) (acE wE : Nat), (∀ (sfc : SF) (T : List Int), T = T0 → Wv s0 sfc acE ((n + T.length : Nat) : Int) wE 0 → ∀ v, X 0 0 L (ov sfc (wrS sa 34 n T) g) 178 [some (.ref 20), some (.int (iI b)), some (.int (iI (oV m))), some (.int (iI (1000 + (many : Int)))), some (.int (iI rd)), some (.int (iI many)), v] []) → n + T0.length + 4 ≤ 9000 → ∀ (ys : List TT) (i acc wc : Nat) (sfc : SF) (T : List Int), (∀ z ∈ ys, isT z ∧ (cd z 0).length ≤ N ∧ (cd z 0).length ≤ 400) → i + ys.length = many → 1 ≤ i → 0 < n + T.length → Wv s0 sfc acc ((n + T.length : Nat) : Int) wc 0 → b + acc + (ys.flatMap (fun x => cd x 0)).length ≤ 84000 → (∀ j, j < (ys.flatMap (fun x => cd x 0)).length → sa 28 (b + acc + j) = (ys.flatMap (fun x => cd x 0)).getD j 0) → T ++ jt zAnd 1 ys = T0 → acc + (ys.flatMap (fun x => cd x 0)).length = acE → wc + jw ys = wE → X 0 0 L (ov sfc (wrS sa 34 n T) g) 121 [some (.ref 20), some (.int (iI b)), some (.int (iI (oV m))), some (.int (iI (1000 + (many : Int)))), some (.int (iI rd)), some (.int (iI many)), some (.int (iI i))] [] := by
        intro lv rd lim T0 acE wE hE hT0 ys
        induction ys with
        | nil =>
          intro i acc wc sfc T hys hi hi1 hn0 hw hb2 hc2 hT hacE hwE
          simp only [List.length_nil] at hi
          refine C.iload dX9_putCond_121 rfl ?_
          refine C.iload dX9_putCond_123 rfl ?_
          refine C.icmp_geI (tgt := 178) dX9_putCond_125 (by decide) (by omega) (by omega) (fun hc125 => ?_) (fun hc125 => absurd hc125 (by omega))
          subst hacE hwE
          refine hE sfc T (by rw [← hT]; simp [jt]) hw _
        | cons z zs ih =>
          intro i acc wc sfc T hys hi hi1 hn0 hw hb2 hc2 hT hacE hwE
          simp only [List.length_cons] at hi
          obtain ⟨hz1, hz2, hz3⟩ := hys z List.mem_cons_self
          obtain ⟨hc3, hc4⟩ := flat_code hc2
          have hjl : T.length + (1 + zAnd.length + (wt z 1 true).length) ≤ T0.length := by rw [← hT]; simp [jt]; omega
          have hPw := m_putWord (d := d - 1) (bo := false) (sf := sfc) (sa := wrS sa 34 n T) (by omega) hw tAnd (by simp at hjl ⊢; omega)
          rw [fl1 hn0, wrS_app] at hPw
          have hl2 : n + T.length + (sp true ++ zAnd).length = n + (T ++ (sp true ++ zAnd)).length := by rw [List.length_append (as := T), Nat.add_assoc]
          rw [hl2] at hPw
          refine C.iload dX9_putCond_121 rfl ?_
          refine C.iload dX9_putCond_123 rfl ?_
          refine C.icmp_geI (tgt := 178) dX9_putCond_125 (by decide) (by omega) (by omega) (fun hc125 => absurd hc125 (by omega)) (fun hc125 => ?_)
          refine C.iload dX9_putCond_128 rfl ?_
          refine C.if_leI (tgt := 151) dX9_putCond_130 (by decide) (by omega) (fun hc130 => absurd hc130 (by omega)) (fun hc130 => ?_)
          refine C.aload_n dX9_putCond_133 rfl ?_
          refine C.iload_n dX9_putCond_134 rfl ?_
          refine C.si dX9_putCond_135 (by decide) ?_
          refine C.icmp_ltI (tgt := 146) dX9_putCond_138 (by decide) (by omega) (by omega) (fun hc138 => ?_) (fun hc138 => absurd hc138 (by omega))
          refine C.lds dX9_putCond_146 (j := 19) rfl ?_
          refine C.mcall hL (hPw) cw_X9_putWord ml_X9_250 im_X9_putWord sl_X9_putWord dX9_putCond_148 rfl rfl (by omega) (Nat.le_refl _) (Nat.le_refl _) (Nat.le_of_ble_eq_true rfl) rfl (fun r148 sf148 sa148 hR148 => ?_)
          obtain ⟨rfl, hs, ha⟩ := hR148
          rw [ha]
          clear ha
          have hn1 : 0 < n + (T ++ (sp true ++ zAnd)).length := by simp; omega
          rw [List.flatMap_cons, List.length_append] at hb2
          have hC := ihN (d := d - 1) (b := b) (ac := acc) (m := 1) (t := z) (bo := false) (sf := sf148) (sa := wrS sa 34 n (T ++ (sp true ++ zAnd))) (by omega) hz1 hz2 (by omega) (by omega) hs (by omega) (fun j hj => by
            rw [wrS_ne (by decide)]
            exact hc3 j hj) (by rw [fl1 hn1]; simp [sp] at hjl ⊢; omega)
          rw [fl1 hn1, wrS_app] at hC
          have hl3 : n + (T ++ (sp true ++ zAnd)).length + (wt z 1 true).length = n + (T ++ (sp true ++ zAnd) ++ wt z 1 true).length := by rw [List.length_append (as := T ++ (sp true ++ zAnd)), Nat.add_assoc]
          rw [hl3] at hC
          refine C.aload_n dX9_putCond_151 rfl ?_
          refine C.iload_n dX9_putCond_152 rfl ?_
          refine C.iload_n dX9_putCond_153 rfl ?_
          refine C.si dX9_putCond_154 (by decide) ?_
          refine C.icmp_ltI (tgt := 166) dX9_putCond_157 (by decide) (by omega) (by omega) (fun hc157 => ?_) (fun hc157 => absurd hc157 (by omega))
          refine C.si dX9_putCond_166 (by decide) ?_
          refine C.mcall hL (hC) cw_X9_putCond ml_X9_258 im_X9_putCond sl_X9_putCond dX9_putCond_169 rfl rfl (by omega) (Nat.le_refl _) (Nat.le_refl _) (Nat.le_of_ble_eq_true rfl) rfl (fun r169 sf169 sa169 hR169 => ?_)
          obtain ⟨rfl, hs2, ha⟩ := hR169
          rw [ha]
          clear ha
          refine C.iincI dX9_putCond_172 rfl (by decide) rfl ?_
          refine C.goto (tgt := 121) dX9_putCond_175 (by decide) ?_
          rw [List.flatMap_cons, List.length_append] at hacE
          refine ih (i + 1) (acc + (cd z 0).length) (wc + 1 + wd z) _ _ (fun q hq => hys q (List.mem_cons_of_mem _ hq)) (by omega) (by omega) (by simp; omega) hs2 (by omega) (fun j hj => ?_) ?_ (by omega) ?_
          · rw [← hc4 j hj]
            congr 1
            omega
          · rw [← hT]
            simp [jt, sp]
          · rw [← hwE]
            simp only [jw, List.map_cons, List.sum_cons]
            omega
      have first : ∀ (rd : Int) (T0 : List Int) (acE wE : Nat), (∀ (sfc : SF) (T : List Int), T = T0 → Wv s0 sfc acE ((n + T.length : Nat) : Int) wE 0 → ∀ v, X 0 0 L (ov sfc (wrS sa 34 n T) g) 178 [some (.ref 20), some (.int (iI b)), some (.int (iI (oV m))), some (.int (iI (1000 + (many : Int)))), some (.int (iI rd)), some (.int (iI many)), v] []) → n + T0.length + 4 ≤ 9000 → ∀ (bo2 : Bool) (sfc : SF) (T : List Int), Wv s0 sfc ((ac + 1 : Nat) : Int) ((n + T.length : Nat) : Int) w (b2i bo2) → T ++ jn zAnd 1 (!bo2 && decide (0 < n + T.length)) ps = T0 → ac + 1 + (ps.flatMap (fun x => cd x 0)).length = acE → w + wd (.and x y) = wE → X 0 0 L (ov sfc (wrS sa 34 n T) g) 118 [some (.ref 20), some (.int (iI b)), some (.int (iI (oV m))), some (.int (iI (1000 + (many : Int)))), some (.int (iI rd)), some (.int (iI many)), none] [] := by
        intro rd T0 acE wE hE hT0 bo2 sfc T hw hT hacE hwE
        cases ps with
        | nil => exact absurd rfl hne
        | cons z zs =>
          simp only [List.length_cons] at hpl
          obtain ⟨hc3, hc4⟩ := flat_code hcode'
          have hz1 := hpT z List.mem_cons_self
          have hz2 := hfl z List.mem_cons_self
          have hb2 := hb
          rw [hlen, List.flatMap_cons, List.length_append] at hb2
          generalize hf2 : (!bo2 && decide (0 < n + T.length)) = f2 at hT
          have hjl : T.length + (wt z 1 f2).length ≤ T0.length := by rw [← hT]; simp [jn]
          have hC := ihN (d := d - 1) (b := b) (ac := ac + 1) (m := 1) (t := z) (bo := bo2) (sf := sfc) (sa := wrS sa 34 n T) (by omega) hz1 (by omega) (by omega) (by omega) hw (by omega) (fun j hj => by
            rw [wrS_ne (by decide)]
            exact hc3 j hj) (by rw [hf2]; omega)
          rw [hf2, wrS_app] at hC
          have hl3 : n + T.length + (wt z 1 f2).length = n + (T ++ wt z 1 f2).length := by rw [List.length_append, Nat.add_assoc]
          rw [hl3] at hC
          have hwl := wt_len z hz1 1 f2
          refine C.ic dX9_putCond_118 ?_
          refine C.istore dX9_putCond_119 (by decide) rfl ?_
          skip
          refine C.iload dX9_putCond_121 rfl ?_
          refine C.iload dX9_putCond_123 rfl ?_
          refine C.icmp_geI (tgt := 178) dX9_putCond_125 (by decide) (by omega) (by omega) (fun hc125 => absurd hc125 (by omega)) (fun hc125 => ?_)
          refine C.iload dX9_putCond_128 rfl ?_
          refine C.if_leI (tgt := 151) dX9_putCond_130 (by decide) (by omega) (fun hc130 => ?_) (fun hc130 => absurd hc130 (by omega))
          refine C.aload_n dX9_putCond_151 rfl ?_
          refine C.iload_n dX9_putCond_152 rfl ?_
          refine C.iload_n dX9_putCond_153 rfl ?_
          refine C.si dX9_putCond_154 (by decide) ?_
          refine C.icmp_ltI (tgt := 166) dX9_putCond_157 (by decide) (by omega) (by omega) (fun hc157 => ?_) (fun hc157 => absurd hc157 (by omega))
          refine C.si dX9_putCond_166 (by decide) ?_
          refine C.mcall hL (hC) cw_X9_putCond ml_X9_258 im_X9_putCond sl_X9_putCond dX9_putCond_169 rfl rfl (by omega) (Nat.le_refl _) (Nat.le_refl _) (Nat.le_of_ble_eq_true rfl) rfl (fun r169 sf169 sa169 hR169 => ?_)
          obtain ⟨rfl, hs2, ha⟩ := hR169
          rw [ha]
          clear ha
          refine C.iincI dX9_putCond_172 rfl (by decide) rfl ?_
          refine C.goto (tgt := 121) dX9_putCond_175 (by decide) ?_
          rw [List.flatMap_cons, List.length_append] at hacE
          refine loop none rd 0 T0 acE wE hE hT0 zs 1 (ac + 1 + (cd z 0).length) (w + wd z) _ _ (fun q hq => ⟨hpT q (List.mem_cons_of_mem _ hq), by have := hfl q (List.mem_cons_of_mem _ hq); omega, by have := hfl q (List.mem_cons_of_mem _ hq); omega⟩) (by omega) (by omega) (by rw [List.length_append]; omega) hs2 (by omega) (fun j hj => ?_) ?_ (by omega) ?_
          · rw [← hc4 j hj]
            congr 1
            omega
          · rw [← hT]
            simp [jn]
          · rw [← hwE]
            simp only [jw, List.map_cons, List.sum_cons] at hpw ⊢
            omega
      have wdE : ((w + wd (.and x y) : Nat) : Int) = ((w + wd (.and x y) : Nat) : Int) := rfl
      by_cases hrd : m = 3
      · rw [if_pos hrd] at hroom
        have hO := m_putOpen (d := d - 1) (sf := va_up sf 18 ((ac : Int) + 1)) (sa := sa) (by omega) hW.up18 (by simp at hroom; omega)
        rw [hf] at hO
        have fin : ∀ (sfc : SF) (T : List Int), T = sp f ++ [40] ++ jn zAnd 1 false ps → Wv s0 sfc ((ac + 1 + (ps.flatMap (fun x => cd x 0)).length : Nat) : Int) ((n + T.length : Nat) : Int) ((w + wd (.and x y) : Nat) : Int) 0 → ∀ v, X 0 0 L (ov sfc (wrS sa 34 n T) g) 178 [some (.ref 20), some (.int (iI b)), some (.int (iI (oV m))), some (.int (iI (1000 + (many : Int)))), some (.int (iI 1)), some (.int (iI many)), v] [] := by
          intro sfc T hT hw v
          have hP := m_put (d := d - 1) (bk := false) (sa := wrS sa 34 n T) (by omega) hw tClose (by rw [← hT, List.length_append] at hroom; simp at hroom ⊢; omega)
          rw [show sp (false && decide (0 < n + T.length)) ++ [41] = [41] from rfl, wrS_app] at hP
          refine C.iload dX9_putCond_178 rfl ?_
          refine C.if_eqI (tgt := 191) dX9_putCond_180 (by decide) (by omega) (fun hc180 => absurd hc180 (by omega)) (fun hc180 => ?_)
          refine C.aload_n dX9_putCond_183 rfl ?_
          refine C.ldsw dX9_putCond_184 (j := 34) rfl ?_
          refine C.ic dX9_putCond_187 ?_
          refine C.mcall hL (hP) cw_X9_put ml_X9_241 im_X9_put sl_X9_put dX9_putCond_188 rfl rfl (by omega) (Nat.le_refl _) (Nat.le_refl _) (Nat.le_of_ble_eq_true rfl) rfl (fun r188 sf188 sa188 hR188 => ?_)
          obtain ⟨rfl, hs2, ha⟩ := hR188
          rw [ha]
          clear ha
          refine C.vret rfl dX9_putCond_191 (Nat.le_refl _) (Nat.le_refl _) ⟨_, _, ?_, rfl, rfl⟩
          refine ⟨rfl, ?_, ?_⟩
          · rw [if_pos hrd, ← hT, hlen, show ac + (1 + (ps.flatMap (fun x => cd x 0)).length) = ac + 1 + (ps.flatMap (fun x => cd x 0)).length by omega, List.length_append, ← Nat.add_assoc]
            exact hs2
          · rw [if_pos hrd, ← hT]
        have hcomp : oV m = 10 := (by rw [hrd]; rfl)
        refine C.aload_n dX9_putCond_0 rfl ?_
        refine C.mget hL gf_X9_33 dX9_putCond_1 rfl ?_
        refine C.iload_n dX9_putCond_4 rfl ?_
        refine C.aload_n dX9_putCond_5 rfl ?_
        refine C.mget hL gf_X9_65 dX9_putCond_6 rfl ?_
        refine C.topI (b := (ac : Int)) h18 ?_
        refine C.iaddI dX9_putCond_9 ?_
        refine C.maldk hL (k := b + ac) dX9_putCond_10 (by decide) rfl (by decide) (by omega) (by omega) ?_
        refine C.topI (b := 1000 + (many : Int)) e0 ?_
        refine C.istore_n dX9_putCond_11 (by decide) rfl ?_
        refine C.aload_n dX9_putCond_12 rfl ?_
        refine C.dup dX9_putCond_13 rfl ?_
        refine C.mget hL gf_X9_65 dX9_putCond_14 rfl ?_
        refine C.topI (b := (ac : Int)) h18 ?_
        refine C.ic dX9_putCond_17 ?_
        refine C.iaddI dX9_putCond_18 ?_
        refine C.mput hL pf_X9_65 dX9_putCond_19 (by decide) rfl ?_
        refine C.iload_n dX9_putCond_22 rfl ?_
        refine C.bi dX9_putCond_23 (by decide) ?_
        refine C.icmp_geI (tgt := 40) dX9_putCond_25 (by decide) (by omega) (by omega) (fun hc25 => ?_) (fun hc25 => absurd hc25 (by omega))
        refine C.iload_n dX9_putCond_40 rfl ?_
        refine C.bi dX9_putCond_41 (by decide) ?_
        refine C.icmp_neI (tgt := 60) dX9_putCond_43 (by decide) (by omega) (by omega) (fun hc43 => ?_) (fun hc43 => absurd hc43 (by omega))
        refine C.iload_n dX9_putCond_60 rfl ?_
        refine C.bi dX9_putCond_61 (by decide) ?_
        refine C.icmp_eqI (tgt := 80) dX9_putCond_63 (by decide) (by omega) (by omega) (fun hc63 => ?_) (fun hc63 => absurd hc63 (by omega))
        refine C.ic dX9_putCond_80 ?_
        refine C.goto (tgt := 85) dX9_putCond_81 (by decide) ?_
        refine C.istore dX9_putCond_85 (by decide) rfl ?_
        refine C.iload_n dX9_putCond_87 rfl ?_
        refine C.si dX9_putCond_88 (by decide) ?_
        refine C.icmp_ltI (tgt := 102) dX9_putCond_91 (by decide) (by omega) (by omega) (fun hc91 => ?_) (fun hc91 => absurd hc91 (by omega))
        refine C.iload_n dX9_putCond_102 rfl ?_
        refine C.si dX9_putCond_103 (by decide) ?_
        refine C.isubI dX9_putCond_106 ?_
        refine C.topI (b := (many : Int)) (by omega) ?_
        refine C.istore dX9_putCond_107 (by decide) rfl ?_
        refine C.iload dX9_putCond_109 rfl ?_
        refine C.if_eqI (tgt := 118) dX9_putCond_111 (by decide) (by omega) (fun hc111 => absurd hc111 (by omega)) (fun hc111 => ?_)
        refine C.aload_n dX9_putCond_114 rfl ?_
        refine C.mcall hL (hO) cw_X9_putOpen ml_X9_261 im_X9_putOpen sl_X9_putOpen dX9_putCond_115 rfl rfl (by omega) (Nat.le_refl _) (Nat.le_refl _) (Nat.le_of_ble_eq_true rfl) rfl (fun r115 sf115 sa115 hR115 => ?_)
        obtain ⟨rfl, hs, ha⟩ := hR115
        rw [ha]
        clear ha
        exact first 1 _ _ _ fin (by simp at hroom ⊢; omega) true sf115 (sp f ++ [40]) hs rfl rfl rfl
      · rw [if_neg hrd] at hroom
        have fin : ∀ (sfc : SF) (T : List Int), T = jn zAnd 1 f ps → Wv s0 sfc ((ac + 1 + (ps.flatMap (fun x => cd x 0)).length : Nat) : Int) ((n + T.length : Nat) : Int) ((w + wd (.and x y) : Nat) : Int) 0 → ∀ v, X 0 0 L (ov sfc (wrS sa 34 n T) g) 178 [some (.ref 20), some (.int (iI b)), some (.int (iI (oV m))), some (.int (iI (1000 + (many : Int)))), some (.int (iI 0)), some (.int (iI many)), v] [] := by
          intro sfc T hT hw v
          refine C.iload dX9_putCond_178 rfl ?_
          refine C.if_eqI (tgt := 191) dX9_putCond_180 (by decide) (by omega) (fun hc180 => ?_) (fun hc180 => absurd hc180 (fun h => h rfl))
          refine C.vret rfl dX9_putCond_191 (Nat.le_refl _) (Nat.le_refl _) ⟨_, _, ?_, rfl, rfl⟩
          refine ⟨rfl, ?_, ?_⟩
          · rw [if_neg hrd, ← hT, hlen, show ac + (1 + (ps.flatMap (fun x => cd x 0)).length) = ac + 1 + (ps.flatMap (fun x => cd x 0)).length by omega]
            exact hw
          · rw [if_neg hrd, ← hT]
        have hcomp : (oV m ≠ 10 ∧ 0 ≤ oV m ∧ oV m ≤ 2000) := (by rcases (show m = 0 ∨ m = 1 ∨ m = 2 by omega) with rfl | rfl | rfl <;> decide)
        have := first 0 (jn zAnd 1 f ps) _ _ fin (by omega) bo (va_up sf 18 ((ac : Int) + 1)) [] hW.up18 (by rw [List.nil_append]; simp only [List.length_nil, Nat.add_zero]; rw [hf]) rfl rfl
        rw [wrS_nil] at this
        refine C.aload_n dX9_putCond_0 rfl ?_
        refine C.mget hL gf_X9_33 dX9_putCond_1 rfl ?_
        refine C.iload_n dX9_putCond_4 rfl ?_
        refine C.aload_n dX9_putCond_5 rfl ?_
        refine C.mget hL gf_X9_65 dX9_putCond_6 rfl ?_
        refine C.topI (b := (ac : Int)) h18 ?_
        refine C.iaddI dX9_putCond_9 ?_
        refine C.maldk hL (k := b + ac) dX9_putCond_10 (by decide) rfl (by decide) (by omega) (by omega) ?_
        refine C.topI (b := 1000 + (many : Int)) e0 ?_
        refine C.istore_n dX9_putCond_11 (by decide) rfl ?_
        refine C.aload_n dX9_putCond_12 rfl ?_
        refine C.dup dX9_putCond_13 rfl ?_
        refine C.mget hL gf_X9_65 dX9_putCond_14 rfl ?_
        refine C.topI (b := (ac : Int)) h18 ?_
        refine C.ic dX9_putCond_17 ?_
        refine C.iaddI dX9_putCond_18 ?_
        refine C.mput hL pf_X9_65 dX9_putCond_19 (by decide) rfl ?_
        refine C.iload_n dX9_putCond_22 rfl ?_
        refine C.bi dX9_putCond_23 (by decide) ?_
        refine C.icmp_geI (tgt := 40) dX9_putCond_25 (by decide) (by omega) (by omega) (fun hc25 => ?_) (fun hc25 => absurd hc25 (by omega))
        refine C.iload_n dX9_putCond_40 rfl ?_
        refine C.bi dX9_putCond_41 (by decide) ?_
        refine C.icmp_neI (tgt := 60) dX9_putCond_43 (by decide) (by omega) (by omega) (fun hc43 => ?_) (fun hc43 => absurd hc43 (by omega))
        refine C.iload_n dX9_putCond_60 rfl ?_
        refine C.bi dX9_putCond_61 (by decide) ?_
        refine C.icmp_eqI (tgt := 80) dX9_putCond_63 (by decide) (by omega) (by omega) (fun hc63 => absurd hc63 (by omega)) (fun hc63 => ?_)
        refine C.iload_n dX9_putCond_66 rfl ?_
        refine C.si dX9_putCond_67 (by decide) ?_
        refine C.icmp_ltI (tgt := 84) dX9_putCond_70 (by decide) (by omega) (by omega) (fun hc70 => ?_) (fun hc70 => absurd hc70 (by omega))
        refine C.ic dX9_putCond_84 ?_
        refine C.istore dX9_putCond_85 (by decide) rfl ?_
        refine C.iload_n dX9_putCond_87 rfl ?_
        refine C.si dX9_putCond_88 (by decide) ?_
        refine C.icmp_ltI (tgt := 102) dX9_putCond_91 (by decide) (by omega) (by omega) (fun hc91 => ?_) (fun hc91 => absurd hc91 (by omega))
        refine C.iload_n dX9_putCond_102 rfl ?_
        refine C.si dX9_putCond_103 (by decide) ?_
        refine C.isubI dX9_putCond_106 ?_
        refine C.topI (b := (many : Int)) (by omega) ?_
        refine C.istore dX9_putCond_107 (by decide) rfl ?_
        refine C.iload dX9_putCond_109 rfl ?_
        refine C.if_eqI (tgt := 118) dX9_putCond_111 (by decide) (by omega) (fun hc111 => ?_) (fun hc111 => absurd hc111 (fun h => h rfl))
        exact this
    · skip
      have hcd : cd (.or x y) 0 = (2000 + ((nO (.or x y) : Nat) : Int)) :: (orL (.or x y)).flatMap (fun x => cd x 0) := by
        rw [← cd_orL]
        simp only [cd, nO]
        rfl
      have e0 : sa 28 (b + ac) = 2000 + ((nO (.or x y) : Nat) : Int) := by
        have := hcode 0 (by rw [hcd]; simp)
        rw [hcd] at this
        exact this
      have hpl : (orL (.or x y)).length = nO (.or x y) := orL_len _
      have hpT := orL_isT (t := .or x y) ⟨hx, hy⟩
      have hlen : (cd (.or x y) 0).length = 1 + ((orL (.or x y)).flatMap (fun x => cd x 0)).length := by rw [hcd]; simp [Nat.add_comm]
      have hpw := wd_or (.or x y)
      have hpt := wt_or (.or x y)
      have hne := orL_ne (.or x y)
      have hlp := len_pieces hpT
      have hcode' : ∀ j, j < ((orL (.or x y)).flatMap (fun x => cd x 0)).length → sa 28 (b + (ac + 1) + j) = ((orL (.or x y)).flatMap (fun x => cd x 0)).getD j 0 := fun j hj => by
        have := hcode (j + 1) (by omega)
        rw [hcd, List.getD_cons_succ] at this
        rw [← this]
        congr 1
        omega
      have hfl : ∀ z ∈ orL (.or x y), (cd z 0).length ≤ ((orL (.or x y)).flatMap (fun x => cd x 0)).length := fun z hz => flatMap_mem_len hz
      generalize hmany : nO (.or x y) = many at *
      generalize hps : orL (.or x y) = ps at *
      have hmb : many ≤ 400 := by omega
      have hwt : wt (.or x y) m f = if (m = 3 ∨ m = 1) then sp f ++ [40] ++ wt (.or x y) 2 false ++ [41] else wt (.or x y) 2 f := by
        simp only [wt]
        split <;> rfl
      rw [hpt, hpt] at hwt
      rw [hwt] at hroom ⊢
      refine MM.of2 (by decide +kernel) rfl (Nat.le_of_ble_eq_true rfl) (fun L g hL X C => ?_)
      have loop : ∀ (lv : Option Value) (rd : Int) (lim : Nat) (T0 : List Int) (acE wE : Nat), (∀ (sfc : SF) (T : List Int), T = T0 → Wv s0 sfc acE ((n + T.length : Nat) : Int) wE 0 → ∀ v, X 0 0 L (ov sfc (wrS sa 34 n T) g) 178 [some (.ref 20), some (.int (iI b)), some (.int (iI (oV m))), some (.int (iI (2000 + (many : Int)))), some (.int (iI rd)), some (.int (iI many)), v] []) → n + T0.length + 4 ≤ 9000 → ∀ (ys : List TT) (i acc wc : Nat) (sfc : SF) (T : List Int), (∀ z ∈ ys, isT z ∧ (cd z 0).length ≤ N ∧ (cd z 0).length ≤ 400) → i + ys.length = many → 1 ≤ i → 0 < n + T.length → Wv s0 sfc acc ((n + T.length : Nat) : Int) wc 0 → b + acc + (ys.flatMap (fun x => cd x 0)).length ≤ 84000 → (∀ j, j < (ys.flatMap (fun x => cd x 0)).length → sa 28 (b + acc + j) = (ys.flatMap (fun x => cd x 0)).getD j 0) → T ++ jt zOr 2 ys = T0 → acc + (ys.flatMap (fun x => cd x 0)).length = acE → wc + jw ys = wE → X 0 0 L (ov sfc (wrS sa 34 n T) g) 121 [some (.ref 20), some (.int (iI b)), some (.int (iI (oV m))), some (.int (iI (2000 + (many : Int)))), some (.int (iI rd)), some (.int (iI many)), some (.int (iI i))] [] := by
        intro lv rd lim T0 acE wE hE hT0 ys
        induction ys with
        | nil =>
          intro i acc wc sfc T hys hi hi1 hn0 hw hb2 hc2 hT hacE hwE
          simp only [List.length_nil] at hi
          refine C.iload dX9_putCond_121 rfl ?_
          refine C.iload dX9_putCond_123 rfl ?_
          refine C.icmp_geI (tgt := 178) dX9_putCond_125 (by decide) (by omega) (by omega) (fun hc125 => ?_) (fun hc125 => absurd hc125 (by omega))
          subst hacE hwE
          refine hE sfc T (by rw [← hT]; simp [jt]) hw _
        | cons z zs ih =>
          intro i acc wc sfc T hys hi hi1 hn0 hw hb2 hc2 hT hacE hwE
          simp only [List.length_cons] at hi
          obtain ⟨hz1, hz2, hz3⟩ := hys z List.mem_cons_self
          obtain ⟨hc3, hc4⟩ := flat_code hc2
          have hjl : T.length + (1 + zOr.length + (wt z 2 true).length) ≤ T0.length := by rw [← hT]; simp [jt]; omega
          have hPw := m_putWord (d := d - 1) (bo := false) (sf := sfc) (sa := wrS sa 34 n T) (by omega) hw tOr (by simp at hjl ⊢; omega)
          rw [fl1 hn0, wrS_app] at hPw
          have hl2 : n + T.length + (sp true ++ zOr).length = n + (T ++ (sp true ++ zOr)).length := by rw [List.length_append (as := T), Nat.add_assoc]
          rw [hl2] at hPw
          refine C.iload dX9_putCond_121 rfl ?_
          refine C.iload dX9_putCond_123 rfl ?_
          refine C.icmp_geI (tgt := 178) dX9_putCond_125 (by decide) (by omega) (by omega) (fun hc125 => absurd hc125 (by omega)) (fun hc125 => ?_)
          refine C.iload dX9_putCond_128 rfl ?_
          refine C.if_leI (tgt := 151) dX9_putCond_130 (by decide) (by omega) (fun hc130 => absurd hc130 (by omega)) (fun hc130 => ?_)
          refine C.aload_n dX9_putCond_133 rfl ?_
          refine C.iload_n dX9_putCond_134 rfl ?_
          refine C.si dX9_putCond_135 (by decide) ?_
          refine C.icmp_ltI (tgt := 146) dX9_putCond_138 (by decide) (by omega) (by omega) (fun hc138 => absurd hc138 (by omega)) (fun hc138 => ?_)
          refine C.lds dX9_putCond_141 (j := 20) rfl ?_
          refine C.goto (tgt := 148) dX9_putCond_143 (by decide) ?_
          refine C.mcall hL (hPw) cw_X9_putWord ml_X9_250 im_X9_putWord sl_X9_putWord dX9_putCond_148 rfl rfl (by omega) (Nat.le_refl _) (Nat.le_refl _) (Nat.le_of_ble_eq_true rfl) rfl (fun r148 sf148 sa148 hR148 => ?_)
          obtain ⟨rfl, hs, ha⟩ := hR148
          rw [ha]
          clear ha
          have hn1 : 0 < n + (T ++ (sp true ++ zOr)).length := by simp; omega
          rw [List.flatMap_cons, List.length_append] at hb2
          have hC := ihN (d := d - 1) (b := b) (ac := acc) (m := 2) (t := z) (bo := false) (sf := sf148) (sa := wrS sa 34 n (T ++ (sp true ++ zOr))) (by omega) hz1 hz2 (by omega) (by omega) hs (by omega) (fun j hj => by
            rw [wrS_ne (by decide)]
            exact hc3 j hj) (by rw [fl1 hn1]; simp [sp] at hjl ⊢; omega)
          rw [fl1 hn1, wrS_app] at hC
          have hl3 : n + (T ++ (sp true ++ zOr)).length + (wt z 2 true).length = n + (T ++ (sp true ++ zOr) ++ wt z 2 true).length := by rw [List.length_append (as := T ++ (sp true ++ zOr)), Nat.add_assoc]
          rw [hl3] at hC
          refine C.aload_n dX9_putCond_151 rfl ?_
          refine C.iload_n dX9_putCond_152 rfl ?_
          refine C.iload_n dX9_putCond_153 rfl ?_
          refine C.si dX9_putCond_154 (by decide) ?_
          refine C.icmp_ltI (tgt := 166) dX9_putCond_157 (by decide) (by omega) (by omega) (fun hc157 => absurd hc157 (by omega)) (fun hc157 => ?_)
          refine C.si dX9_putCond_160 (by decide) ?_
          refine C.goto (tgt := 169) dX9_putCond_163 (by decide) ?_
          refine C.mcall hL (hC) cw_X9_putCond ml_X9_258 im_X9_putCond sl_X9_putCond dX9_putCond_169 rfl rfl (by omega) (Nat.le_refl _) (Nat.le_refl _) (Nat.le_of_ble_eq_true rfl) rfl (fun r169 sf169 sa169 hR169 => ?_)
          obtain ⟨rfl, hs2, ha⟩ := hR169
          rw [ha]
          clear ha
          refine C.iincI dX9_putCond_172 rfl (by decide) rfl ?_
          refine C.goto (tgt := 121) dX9_putCond_175 (by decide) ?_
          rw [List.flatMap_cons, List.length_append] at hacE
          refine ih (i + 1) (acc + (cd z 0).length) (wc + 1 + wd z) _ _ (fun q hq => hys q (List.mem_cons_of_mem _ hq)) (by omega) (by omega) (by simp; omega) hs2 (by omega) (fun j hj => ?_) ?_ (by omega) ?_
          · rw [← hc4 j hj]
            congr 1
            omega
          · rw [← hT]
            simp [jt, sp]
          · rw [← hwE]
            simp only [jw, List.map_cons, List.sum_cons]
            omega
      have first : ∀ (rd : Int) (T0 : List Int) (acE wE : Nat), (∀ (sfc : SF) (T : List Int), T = T0 → Wv s0 sfc acE ((n + T.length : Nat) : Int) wE 0 → ∀ v, X 0 0 L (ov sfc (wrS sa 34 n T) g) 178 [some (.ref 20), some (.int (iI b)), some (.int (iI (oV m))), some (.int (iI (2000 + (many : Int)))), some (.int (iI rd)), some (.int (iI many)), v] []) → n + T0.length + 4 ≤ 9000 → ∀ (bo2 : Bool) (sfc : SF) (T : List Int), Wv s0 sfc ((ac + 1 : Nat) : Int) ((n + T.length : Nat) : Int) w (b2i bo2) → T ++ jn zOr 2 (!bo2 && decide (0 < n + T.length)) ps = T0 → ac + 1 + (ps.flatMap (fun x => cd x 0)).length = acE → w + wd (.or x y) = wE → X 0 0 L (ov sfc (wrS sa 34 n T) g) 118 [some (.ref 20), some (.int (iI b)), some (.int (iI (oV m))), some (.int (iI (2000 + (many : Int)))), some (.int (iI rd)), some (.int (iI many)), none] [] := by
        intro rd T0 acE wE hE hT0 bo2 sfc T hw hT hacE hwE
        cases ps with
        | nil => exact absurd rfl hne
        | cons z zs =>
          simp only [List.length_cons] at hpl
          obtain ⟨hc3, hc4⟩ := flat_code hcode'
          have hz1 := hpT z List.mem_cons_self
          have hz2 := hfl z List.mem_cons_self
          have hb2 := hb
          rw [hlen, List.flatMap_cons, List.length_append] at hb2
          generalize hf2 : (!bo2 && decide (0 < n + T.length)) = f2 at hT
          have hjl : T.length + (wt z 2 f2).length ≤ T0.length := by rw [← hT]; simp [jn]
          have hC := ihN (d := d - 1) (b := b) (ac := ac + 1) (m := 2) (t := z) (bo := bo2) (sf := sfc) (sa := wrS sa 34 n T) (by omega) hz1 (by omega) (by omega) (by omega) hw (by omega) (fun j hj => by
            rw [wrS_ne (by decide)]
            exact hc3 j hj) (by rw [hf2]; omega)
          rw [hf2, wrS_app] at hC
          have hl3 : n + T.length + (wt z 2 f2).length = n + (T ++ wt z 2 f2).length := by rw [List.length_append, Nat.add_assoc]
          rw [hl3] at hC
          have hwl := wt_len z hz1 2 f2
          refine C.ic dX9_putCond_118 ?_
          refine C.istore dX9_putCond_119 (by decide) rfl ?_
          skip
          refine C.iload dX9_putCond_121 rfl ?_
          refine C.iload dX9_putCond_123 rfl ?_
          refine C.icmp_geI (tgt := 178) dX9_putCond_125 (by decide) (by omega) (by omega) (fun hc125 => absurd hc125 (by omega)) (fun hc125 => ?_)
          refine C.iload dX9_putCond_128 rfl ?_
          refine C.if_leI (tgt := 151) dX9_putCond_130 (by decide) (by omega) (fun hc130 => ?_) (fun hc130 => absurd hc130 (by omega))
          refine C.aload_n dX9_putCond_151 rfl ?_
          refine C.iload_n dX9_putCond_152 rfl ?_
          refine C.iload_n dX9_putCond_153 rfl ?_
          refine C.si dX9_putCond_154 (by decide) ?_
          refine C.icmp_ltI (tgt := 166) dX9_putCond_157 (by decide) (by omega) (by omega) (fun hc157 => absurd hc157 (by omega)) (fun hc157 => ?_)
          refine C.si dX9_putCond_160 (by decide) ?_
          refine C.goto (tgt := 169) dX9_putCond_163 (by decide) ?_
          refine C.mcall hL (hC) cw_X9_putCond ml_X9_258 im_X9_putCond sl_X9_putCond dX9_putCond_169 rfl rfl (by omega) (Nat.le_refl _) (Nat.le_refl _) (Nat.le_of_ble_eq_true rfl) rfl (fun r169 sf169 sa169 hR169 => ?_)
          obtain ⟨rfl, hs2, ha⟩ := hR169
          rw [ha]
          clear ha
          refine C.iincI dX9_putCond_172 rfl (by decide) rfl ?_
          refine C.goto (tgt := 121) dX9_putCond_175 (by decide) ?_
          rw [List.flatMap_cons, List.length_append] at hacE
          refine loop none rd 0 T0 acE wE hE hT0 zs 1 (ac + 1 + (cd z 0).length) (w + wd z) _ _ (fun q hq => ⟨hpT q (List.mem_cons_of_mem _ hq), by have := hfl q (List.mem_cons_of_mem _ hq); omega, by have := hfl q (List.mem_cons_of_mem _ hq); omega⟩) (by omega) (by omega) (by rw [List.length_append]; omega) hs2 (by omega) (fun j hj => ?_) ?_ (by omega) ?_
          · rw [← hc4 j hj]
            congr 1
            omega
          · rw [← hT]
            simp [jn]
          · rw [← hwE]
            simp only [jw, List.map_cons, List.sum_cons] at hpw ⊢
            omega
      have wdE : ((w + wd (.or x y) : Nat) : Int) = ((w + wd (.or x y) : Nat) : Int) := rfl
      by_cases hrd : (m = 3 ∨ m = 1)
      · rw [if_pos hrd] at hroom
        have hO := m_putOpen (d := d - 1) (sf := va_up sf 18 ((ac : Int) + 1)) (sa := sa) (by omega) hW.up18 (by simp at hroom; omega)
        rw [hf] at hO
        have fin : ∀ (sfc : SF) (T : List Int), T = sp f ++ [40] ++ jn zOr 2 false ps → Wv s0 sfc ((ac + 1 + (ps.flatMap (fun x => cd x 0)).length : Nat) : Int) ((n + T.length : Nat) : Int) ((w + wd (.or x y) : Nat) : Int) 0 → ∀ v, X 0 0 L (ov sfc (wrS sa 34 n T) g) 178 [some (.ref 20), some (.int (iI b)), some (.int (iI (oV m))), some (.int (iI (2000 + (many : Int)))), some (.int (iI 1)), some (.int (iI many)), v] [] := by
          intro sfc T hT hw v
          have hP := m_put (d := d - 1) (bk := false) (sa := wrS sa 34 n T) (by omega) hw tClose (by rw [← hT, List.length_append] at hroom; simp at hroom ⊢; omega)
          rw [show sp (false && decide (0 < n + T.length)) ++ [41] = [41] from rfl, wrS_app] at hP
          refine C.iload dX9_putCond_178 rfl ?_
          refine C.if_eqI (tgt := 191) dX9_putCond_180 (by decide) (by omega) (fun hc180 => absurd hc180 (by omega)) (fun hc180 => ?_)
          refine C.aload_n dX9_putCond_183 rfl ?_
          refine C.ldsw dX9_putCond_184 (j := 34) rfl ?_
          refine C.ic dX9_putCond_187 ?_
          refine C.mcall hL (hP) cw_X9_put ml_X9_241 im_X9_put sl_X9_put dX9_putCond_188 rfl rfl (by omega) (Nat.le_refl _) (Nat.le_refl _) (Nat.le_of_ble_eq_true rfl) rfl (fun r188 sf188 sa188 hR188 => ?_)
          obtain ⟨rfl, hs2, ha⟩ := hR188
          rw [ha]
          clear ha
          refine C.vret rfl dX9_putCond_191 (Nat.le_refl _) (Nat.le_refl _) ⟨_, _, ?_, rfl, rfl⟩
          refine ⟨rfl, ?_, ?_⟩
          · rw [if_pos hrd, ← hT, hlen, show ac + (1 + (ps.flatMap (fun x => cd x 0)).length) = ac + 1 + (ps.flatMap (fun x => cd x 0)).length by omega, List.length_append, ← Nat.add_assoc]
            exact hs2
          · rw [if_pos hrd, ← hT]
        have hcomp : (oV m = 10 ∨ oV m = 1000) := (by rcases hrd with rfl | rfl <;> decide)
        refine C.aload_n dX9_putCond_0 rfl ?_
        refine C.mget hL gf_X9_33 dX9_putCond_1 rfl ?_
        refine C.iload_n dX9_putCond_4 rfl ?_
        refine C.aload_n dX9_putCond_5 rfl ?_
        refine C.mget hL gf_X9_65 dX9_putCond_6 rfl ?_
        refine C.topI (b := (ac : Int)) h18 ?_
        refine C.iaddI dX9_putCond_9 ?_
        refine C.maldk hL (k := b + ac) dX9_putCond_10 (by decide) rfl (by decide) (by omega) (by omega) ?_
        refine C.topI (b := 2000 + (many : Int)) e0 ?_
        refine C.istore_n dX9_putCond_11 (by decide) rfl ?_
        refine C.aload_n dX9_putCond_12 rfl ?_
        refine C.dup dX9_putCond_13 rfl ?_
        refine C.mget hL gf_X9_65 dX9_putCond_14 rfl ?_
        refine C.topI (b := (ac : Int)) h18 ?_
        refine C.ic dX9_putCond_17 ?_
        refine C.iaddI dX9_putCond_18 ?_
        refine C.mput hL pf_X9_65 dX9_putCond_19 (by decide) rfl ?_
        refine C.iload_n dX9_putCond_22 rfl ?_
        refine C.bi dX9_putCond_23 (by decide) ?_
        refine C.icmp_geI (tgt := 40) dX9_putCond_25 (by decide) (by omega) (by omega) (fun hc25 => ?_) (fun hc25 => absurd hc25 (by omega))
        refine C.iload_n dX9_putCond_40 rfl ?_
        refine C.bi dX9_putCond_41 (by decide) ?_
        refine C.icmp_neI (tgt := 60) dX9_putCond_43 (by decide) (by omega) (by omega) (fun hc43 => ?_) (fun hc43 => absurd hc43 (by omega))
        refine C.iload_n dX9_putCond_60 rfl ?_
        refine C.bi dX9_putCond_61 (by decide) ?_
        refine C.icmp_eqI (tgt := 80) dX9_putCond_63 (by decide) (by omega) (by omega) (fun hc63 => ?_) (fun hc63 => ?_)
        · refine C.ic dX9_putCond_80 ?_
          refine C.goto (tgt := 85) dX9_putCond_81 (by decide) ?_
          refine C.istore dX9_putCond_85 (by decide) rfl ?_
          refine C.iload_n dX9_putCond_87 rfl ?_
          refine C.si dX9_putCond_88 (by decide) ?_
          refine C.icmp_ltI (tgt := 102) dX9_putCond_91 (by decide) (by omega) (by omega) (fun hc91 => absurd hc91 (by omega)) (fun hc91 => ?_)
          refine C.iload_n dX9_putCond_94 rfl ?_
          refine C.si dX9_putCond_95 (by decide) ?_
          refine C.isubI dX9_putCond_98 ?_
          refine C.goto (tgt := 107) dX9_putCond_99 (by decide) ?_
          refine C.topI (b := (many : Int)) (by omega) ?_
          refine C.istore dX9_putCond_107 (by decide) rfl ?_
          refine C.iload dX9_putCond_109 rfl ?_
          refine C.if_eqI (tgt := 118) dX9_putCond_111 (by decide) (by omega) (fun hc111 => absurd hc111 (by omega)) (fun hc111 => ?_)
          refine C.aload_n dX9_putCond_114 rfl ?_
          refine C.mcall hL (hO) cw_X9_putOpen ml_X9_261 im_X9_putOpen sl_X9_putOpen dX9_putCond_115 rfl rfl (by omega) (Nat.le_refl _) (Nat.le_refl _) (Nat.le_of_ble_eq_true rfl) rfl (fun r115 sf115 sa115 hR115 => ?_)
          obtain ⟨rfl, hs, ha⟩ := hR115
          rw [ha]
          clear ha
          exact first 1 _ _ _ fin (by simp at hroom ⊢; omega) true sf115 (sp f ++ [40]) hs rfl rfl rfl
        · refine C.iload_n dX9_putCond_66 rfl ?_
          refine C.si dX9_putCond_67 (by decide) ?_
          refine C.icmp_ltI (tgt := 84) dX9_putCond_70 (by decide) (by omega) (by omega) (fun hc70 => absurd hc70 (by omega)) (fun hc70 => ?_)
          refine C.iload_n dX9_putCond_73 rfl ?_
          refine C.si dX9_putCond_74 (by decide) ?_
          refine C.icmp_neI (tgt := 84) dX9_putCond_77 (by decide) (by omega) (by omega) (fun hc77 => absurd hc77 (by omega)) (fun hc77 => ?_)
          refine C.ic dX9_putCond_80 ?_
          refine C.goto (tgt := 85) dX9_putCond_81 (by decide) ?_
          refine C.istore dX9_putCond_85 (by decide) rfl ?_
          refine C.iload_n dX9_putCond_87 rfl ?_
          refine C.si dX9_putCond_88 (by decide) ?_
          refine C.icmp_ltI (tgt := 102) dX9_putCond_91 (by decide) (by omega) (by omega) (fun hc91 => absurd hc91 (by omega)) (fun hc91 => ?_)
          refine C.iload_n dX9_putCond_94 rfl ?_
          refine C.si dX9_putCond_95 (by decide) ?_
          refine C.isubI dX9_putCond_98 ?_
          refine C.goto (tgt := 107) dX9_putCond_99 (by decide) ?_
          refine C.topI (b := (many : Int)) (by omega) ?_
          refine C.istore dX9_putCond_107 (by decide) rfl ?_
          refine C.iload dX9_putCond_109 rfl ?_
          refine C.if_eqI (tgt := 118) dX9_putCond_111 (by decide) (by omega) (fun hc111 => absurd hc111 (by omega)) (fun hc111 => ?_)
          refine C.aload_n dX9_putCond_114 rfl ?_
          refine C.mcall hL (hO) cw_X9_putOpen ml_X9_261 im_X9_putOpen sl_X9_putOpen dX9_putCond_115 rfl rfl (by omega) (Nat.le_refl _) (Nat.le_refl _) (Nat.le_of_ble_eq_true rfl) rfl (fun r115 sf115 sa115 hR115 => ?_)
          obtain ⟨rfl, hs, ha⟩ := hR115
          rw [ha]
          clear ha
          exact first 1 _ _ _ fin (by simp at hroom ⊢; omega) true sf115 (sp f ++ [40]) hs rfl rfl rfl
      · rw [if_neg hrd] at hroom
        have fin : ∀ (sfc : SF) (T : List Int), T = jn zOr 2 f ps → Wv s0 sfc ((ac + 1 + (ps.flatMap (fun x => cd x 0)).length : Nat) : Int) ((n + T.length : Nat) : Int) ((w + wd (.or x y) : Nat) : Int) 0 → ∀ v, X 0 0 L (ov sfc (wrS sa 34 n T) g) 178 [some (.ref 20), some (.int (iI b)), some (.int (iI (oV m))), some (.int (iI (2000 + (many : Int)))), some (.int (iI 0)), some (.int (iI many)), v] [] := by
          intro sfc T hT hw v
          refine C.iload dX9_putCond_178 rfl ?_
          refine C.if_eqI (tgt := 191) dX9_putCond_180 (by decide) (by omega) (fun hc180 => ?_) (fun hc180 => absurd hc180 (fun h => h rfl))
          refine C.vret rfl dX9_putCond_191 (Nat.le_refl _) (Nat.le_refl _) ⟨_, _, ?_, rfl, rfl⟩
          refine ⟨rfl, ?_, ?_⟩
          · rw [if_neg hrd, ← hT, hlen, show ac + (1 + (ps.flatMap (fun x => cd x 0)).length) = ac + 1 + (ps.flatMap (fun x => cd x 0)).length by omega]
            exact hw
          · rw [if_neg hrd, ← hT]
        have hcomp : (oV m ≠ 10 ∧ oV m ≠ 1000 ∧ 0 ≤ oV m ∧ oV m ≤ 2000) := (by rcases (show m = 0 ∨ m = 2 by omega) with rfl | rfl <;> decide)
        have := first 0 (jn zOr 2 f ps) _ _ fin (by omega) bo (va_up sf 18 ((ac : Int) + 1)) [] hW.up18 (by rw [List.nil_append]; simp only [List.length_nil, Nat.add_zero]; rw [hf]) rfl rfl
        rw [wrS_nil] at this
        refine C.aload_n dX9_putCond_0 rfl ?_
        refine C.mget hL gf_X9_33 dX9_putCond_1 rfl ?_
        refine C.iload_n dX9_putCond_4 rfl ?_
        refine C.aload_n dX9_putCond_5 rfl ?_
        refine C.mget hL gf_X9_65 dX9_putCond_6 rfl ?_
        refine C.topI (b := (ac : Int)) h18 ?_
        refine C.iaddI dX9_putCond_9 ?_
        refine C.maldk hL (k := b + ac) dX9_putCond_10 (by decide) rfl (by decide) (by omega) (by omega) ?_
        refine C.topI (b := 2000 + (many : Int)) e0 ?_
        refine C.istore_n dX9_putCond_11 (by decide) rfl ?_
        refine C.aload_n dX9_putCond_12 rfl ?_
        refine C.dup dX9_putCond_13 rfl ?_
        refine C.mget hL gf_X9_65 dX9_putCond_14 rfl ?_
        refine C.topI (b := (ac : Int)) h18 ?_
        refine C.ic dX9_putCond_17 ?_
        refine C.iaddI dX9_putCond_18 ?_
        refine C.mput hL pf_X9_65 dX9_putCond_19 (by decide) rfl ?_
        refine C.iload_n dX9_putCond_22 rfl ?_
        refine C.bi dX9_putCond_23 (by decide) ?_
        refine C.icmp_geI (tgt := 40) dX9_putCond_25 (by decide) (by omega) (by omega) (fun hc25 => ?_) (fun hc25 => absurd hc25 (by omega))
        refine C.iload_n dX9_putCond_40 rfl ?_
        refine C.bi dX9_putCond_41 (by decide) ?_
        refine C.icmp_neI (tgt := 60) dX9_putCond_43 (by decide) (by omega) (by omega) (fun hc43 => ?_) (fun hc43 => absurd hc43 (by omega))
        refine C.iload_n dX9_putCond_60 rfl ?_
        refine C.bi dX9_putCond_61 (by decide) ?_
        refine C.icmp_eqI (tgt := 80) dX9_putCond_63 (by decide) (by omega) (by omega) (fun hc63 => absurd hc63 (by omega)) (fun hc63 => ?_)
        refine C.iload_n dX9_putCond_66 rfl ?_
        refine C.si dX9_putCond_67 (by decide) ?_
        refine C.icmp_ltI (tgt := 84) dX9_putCond_70 (by decide) (by omega) (by omega) (fun hc70 => absurd hc70 (by omega)) (fun hc70 => ?_)
        refine C.iload_n dX9_putCond_73 rfl ?_
        refine C.si dX9_putCond_74 (by decide) ?_
        refine C.icmp_neI (tgt := 84) dX9_putCond_77 (by decide) (by omega) (by omega) (fun hc77 => ?_) (fun hc77 => absurd hc77 (by omega))
        refine C.ic dX9_putCond_84 ?_
        refine C.istore dX9_putCond_85 (by decide) rfl ?_
        refine C.iload_n dX9_putCond_87 rfl ?_
        refine C.si dX9_putCond_88 (by decide) ?_
        refine C.icmp_ltI (tgt := 102) dX9_putCond_91 (by decide) (by omega) (by omega) (fun hc91 => absurd hc91 (by omega)) (fun hc91 => ?_)
        refine C.iload_n dX9_putCond_94 rfl ?_
        refine C.si dX9_putCond_95 (by decide) ?_
        refine C.isubI dX9_putCond_98 ?_
        refine C.goto (tgt := 107) dX9_putCond_99 (by decide) ?_
        refine C.topI (b := (many : Int)) (by omega) ?_
        refine C.istore dX9_putCond_107 (by decide) rfl ?_
        refine C.iload dX9_putCond_109 rfl ?_
        refine C.if_eqI (tgt := 118) dX9_putCond_111 (by decide) (by omega) (fun hc111 => ?_) (fun hc111 => absurd hc111 (fun h => h rfl))
        exact this
