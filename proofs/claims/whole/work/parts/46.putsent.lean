/-- from n on, T has been written, in wc words -/
def WT (s0 : SF) (sa0 : SA) (n : Nat) (T : List Int) (wc : Nat) (sf : SF) (sa : SA) : Prop := (∃ a, Wv s0 sf a ((n + T.length : Nat) : Int) wc 0) ∧ sa = wrS sa0 34 n T
abbrev Ff (n : Nat) (T : List Int) : Bool := decide (0 < n + T.length)
theorem p_word {d n j wc : Nat} {zs T : List Int} {s0 sf : SF} {sa0 sa : SA} (hd : 5 ≤ d) (h : WT s0 sa0 n T wc sf sa) (ht : TX j zs) (hr : n + (T ++ (sp (Ff n T) ++ zs)).length + 4 ≤ 9000) : MM yX9_putWord cX9_putWord 2 none d [.ref (1000 + j)] sf sa (fun r sf' sa' => r = none ∧ WT s0 sa0 n (T ++ (sp (Ff n T) ++ zs)) (wc + 1) sf' sa') := by
  obtain ⟨⟨a, hW⟩, hs⟩ := h
  rw [List.length_append, List.length_append] at hr
  refine (m_putWord (bo := false) (sa := sa) hd hW ht (by omega)).imp (fun r sf' sa' hp => ?_)
  obtain ⟨h1, h2, h3⟩ := hp
  refine ⟨h1, ⟨a, ?_⟩, ?_⟩
  · rw [List.length_append, ← Nat.add_assoc]
    exact h2
  · rw [h3, hs, wrS_app]
    rfl
theorem p_num {d n wc : Nat} {v : Int} {T : List Int} {s0 sf : SF} {sa0 sa : SA} (h : WT s0 sa0 n T wc sf sa) (hv : 0 ≤ v ∧ v ≤ 999) (hr : n + (T ++ (32 :: dgL v)).length + 4 ≤ 9000) : MM yX9_putNumber cX9_putNumber 3 none d [.int (iI v)] sf sa (fun r sf' sa' => r = none ∧ WT s0 sa0 n (T ++ (32 :: dgL v)) (wc + 1) sf' sa') := by
  obtain ⟨⟨a, hW⟩, hs⟩ := h
  rw [List.length_append] at hr
  refine (m_putNumber (sa := sa) hW hv (by omega)).imp (fun r sf' sa' hp => ?_)
  obtain ⟨h1, h2, h3⟩ := hp
  refine ⟨h1, ⟨a, ?_⟩, ?_⟩
  · rw [List.length_append, ← Nat.add_assoc]
    exact h2
  · rw [h3, hs, wrS_app]
theorem p_put {d n j wc : Nat} {zs T : List Int} {s0 sf : SF} {sa0 sa : SA} (hd : 4 ≤ d) (h : WT s0 sa0 n T wc sf sa) (ht : TX j zs) (hr : n + (T ++ zs).length + 4 ≤ 9000) : MM yX9_put cX9_put 4 none d [.ref (1000 + j), .int (iI 0)] sf sa (fun r sf' sa' => r = none ∧ WT s0 sa0 n (T ++ zs) wc sf' sa') := by
  obtain ⟨⟨a, hW⟩, hs⟩ := h
  rw [List.length_append] at hr
  refine (m_put (bk := false) (sa := sa) hd hW ht (by omega)).imp (fun r sf' sa' hp => ?_)
  obtain ⟨h1, h2, h3⟩ := hp
  refine ⟨h1, ⟨a, ?_⟩, ?_⟩
  · rw [List.length_append, ← Nat.add_assoc]
    exact h2
  · rw [h3, hs, show sp (false && decide (0 < n + T.length)) ++ zs = zs from rfl, wrS_app]
theorem WT.at0 {s0 sf : SF} {sa0 sa : SA} {n wc : Nat} {T : List Int} {v : Int} (h : WT s0 sa0 n T wc sf sa) : WT s0 sa0 n T wc (va_up sf 18 v) sa := by
  obtain ⟨⟨a, hW⟩, hs⟩ := h
  exact ⟨⟨v, hW.up18⟩, hs⟩
set_option maxRecDepth 20000 in
theorem p_cond {d n wc c : Nat} {T : List Int} {t : TT} {s0 sf : SF} {sa0 sa : SA} (hd : 410 ≤ d) (hc : c < 200) (h : WT s0 sa0 n T wc sf sa) (h18 : sf 18 = 0) (hrow : RowAt sa0 c (some t)) (hr : n + (T ++ wt t 0 (Ff n T)).length + 4 ≤ 9000) : MM yX9_putCond cX9_putCond 7 none d [.int (iI ((c * 420 : Nat) : Int)), .int (iI 0)] sf sa (fun r sf' sa' => r = none ∧ WT s0 sa0 n (T ++ wt t 0 (Ff n T)) (wc + wd t) sf' sa') := by
  obtain ⟨⟨a, hW⟩, hs⟩ := h
  obtain ⟨q1, q2, q3, q4⟩ := hrow
  rw [List.length_append] at hr
  have ha : a = ((0 : Nat) : Int) := by rw [← hW.2.1]; exact h18
  rw [ha] at hW
  have hm := m_putCond 400 (d := d) (b := c * 420) (m := 0) (bo := false) (sa := sa) (by omega) q3 q4 q4 (by decide) hW (by omega) (fun j hj => by
    rw [hs, wrS_ne (by decide)]
    exact q2 j hj) (by rw [Bool.not_false, Bool.true_and]; rw [Ff] at hr; omega)
  rw [Bool.not_false, Bool.true_and] at hm
  refine MM.imp hm (fun r sf' sa' hp => ?_)
  obtain ⟨h1, h2, h3⟩ := hp
  refine ⟨h1, ⟨((0 + (cd t 0).length : Nat) : Int), ?_⟩, ?_⟩
  · rw [List.length_append, ← Nat.add_assoc]
    exact h2
  · rw [h3, hs, wrS_app]
def whT (w : Int) : List Int := if w = 0 then zYou else if w = 1 then zWe else zThey
theorem p_who {d n wc : Nat} {v : Int} {T : List Int} {s0 sf : SF} {sa0 sa : SA} (hd : 6 ≤ d) (h : WT s0 sa0 n T wc sf sa) (hv : 0 ≤ v ∧ v ≤ 3) (hr : n + (T ++ (sp (Ff n T) ++ whT v)).length + 4 ≤ 9000) : MM yX9_putWho cX9_putWho 2 none d [.int (iI v)] sf sa (fun r sf' sa' => r = none ∧ WT s0 sa0 n (T ++ (sp (Ff n T) ++ whT v)) (wc + 1) sf' sa') := by
  refine MM.of2 (by decide +kernel) rfl (Nat.le_of_ble_eq_true rfl) (fun L g hL X C => ?_)
  by_cases h0 : v = 0
  · have hw : whT v = zYou := if_pos h0
    rw [hw] at hr C
    refine C.aload_n dX9_putWho_0 rfl ?_
    refine C.iload_n dX9_putWho_1 rfl ?_
    refine C.if_neI (tgt := 10) dX9_putWho_2 (by decide) (by omega) (fun hc2 => absurd hc2 (fun h => h h0)) (fun hc2 => ?_)
    refine C.lds dX9_putWho_5 (j := 21) rfl ?_
    refine C.goto (tgt := 22) dX9_putWho_7 (by decide) ?_
    refine C.mcall hL (p_word (d := d - 1) (by omega) h tYou hr) cw_X9_putWord ml_X9_250 im_X9_putWord sl_X9_putWord dX9_putWho_22 rfl rfl (by omega) (Nat.le_refl _) (Nat.le_refl _) (Nat.le_of_ble_eq_true rfl) rfl (fun r22 sf22 sa22 hR22 => ?_)
    obtain ⟨rfl, hs⟩ := hR22
    refine C.vret rfl dX9_putWho_25 (Nat.le_refl _) (Nat.le_refl _) ⟨_, _, ?_, rfl, rfl⟩
    exact ⟨rfl, hs⟩
  by_cases h1 : v = 1
  · have hw : whT v = zWe := (if_neg h0).trans (if_pos h1)
    rw [hw] at hr C
    refine C.aload_n dX9_putWho_0 rfl ?_
    refine C.iload_n dX9_putWho_1 rfl ?_
    refine C.if_neI (tgt := 10) dX9_putWho_2 (by decide) (by omega) (fun hc2 => ?_) (fun hc2 => absurd hc2 h0)
    refine C.iload_n dX9_putWho_10 rfl ?_
    refine C.ic dX9_putWho_11 ?_
    refine C.icmp_neI (tgt := 20) dX9_putWho_12 (by decide) (by omega) (by omega) (fun hc12 => absurd hc12 (fun h => h h1)) (fun hc12 => ?_)
    refine C.lds dX9_putWho_15 (j := 22) rfl ?_
    refine C.goto (tgt := 22) dX9_putWho_17 (by decide) ?_
    refine C.mcall hL (p_word (d := d - 1) (by omega) h tWe hr) cw_X9_putWord ml_X9_250 im_X9_putWord sl_X9_putWord dX9_putWho_22 rfl rfl (by omega) (Nat.le_refl _) (Nat.le_refl _) (Nat.le_of_ble_eq_true rfl) rfl (fun r22 sf22 sa22 hR22 => ?_)
    obtain ⟨rfl, hs⟩ := hR22
    refine C.vret rfl dX9_putWho_25 (Nat.le_refl _) (Nat.le_refl _) ⟨_, _, ?_, rfl, rfl⟩
    exact ⟨rfl, hs⟩
  · have hw : whT v = zThey := (if_neg h0).trans (if_neg h1)
    rw [hw] at hr C
    refine C.aload_n dX9_putWho_0 rfl ?_
    refine C.iload_n dX9_putWho_1 rfl ?_
    refine C.if_neI (tgt := 10) dX9_putWho_2 (by decide) (by omega) (fun hc2 => ?_) (fun hc2 => absurd hc2 h0)
    refine C.iload_n dX9_putWho_10 rfl ?_
    refine C.ic dX9_putWho_11 ?_
    refine C.icmp_neI (tgt := 20) dX9_putWho_12 (by decide) (by omega) (by omega) (fun hc12 => ?_) (fun hc12 => absurd hc12 h1)
    refine C.lds dX9_putWho_20 (j := 23) rfl ?_
    refine C.mcall hL (p_word (d := d - 1) (by omega) h tThey hr) cw_X9_putWord ml_X9_250 im_X9_putWord sl_X9_putWord dX9_putWho_22 rfl rfl (by omega) (Nat.le_refl _) (Nat.le_refl _) (Nat.le_of_ble_eq_true rfl) rfl (fun r22 sf22 sa22 hR22 => ?_)
    obtain ⟨rfl, hs⟩ := hR22
    refine C.vret rfl dX9_putWho_25 (Nat.le_refl _) (Nat.le_refl _) ⟨_, _, ?_, rfl, rfl⟩
    exact ⟨rfl, hs⟩
def moT (m : Int) : List Int := (if m = 2 then zMay else zMust) ++ (if m = 1 then 32 :: zNot else [])
theorem Ff_t {n : Nat} {T xs : List Int} (h : xs ≠ []) : Ff n (T ++ xs) = true := by
  have : 0 < xs.length := List.length_pos_iff.mpr h
  unfold Ff
  rw [List.length_append, decide_eq_true_eq]
  omega
theorem p_mode {d n wc s : Nat} {v : Int} {T : List Int} {s0 sf : SF} {sa0 sa : SA} (hd : 6 ≤ d) (hs : s < 100) (h : WT s0 sa0 n T wc sf sa) (hv : 0 ≤ v ∧ v ≤ 2) (h24 : sa0 24 s = v) (hr : n + (T ++ (sp (Ff n T) ++ moT v)).length + 4 ≤ 9000) : MM yX9_putMode cX9_putMode 2 none d [.int (iI s)] sf sa (fun r sf' sa' => r = none ∧ WT s0 sa0 n (T ++ (sp (Ff n T) ++ moT v)) (wc + (if v = 1 then 2 else 1)) sf' sa') := by
  have e24 : ∀ sac T1 sfc wc1, WT s0 sa0 n T1 wc1 sfc sac → sac 24 s = v := fun sac T1 sfc wc1 hq => by rw [hq.2, wrS_ne (by decide)]; exact h24
  have ea := e24 _ _ _ _ h
  refine MM.of2 (by decide +kernel) rfl (Nat.le_of_ble_eq_true rfl) (fun L g hL X C => ?_)
  by_cases h2 : v = 2
  · have hw : moT v = zMay := by unfold moT; rw [if_pos h2, if_neg (by omega), List.append_nil]
    rw [hw] at hr C
    rw [if_neg (by omega : ¬ v = 1)] at C
    refine C.aload_n dX9_putMode_0 rfl ?_
    refine C.aload_n dX9_putMode_1 rfl ?_
    refine C.mget hL gf_X9_19 dX9_putMode_2 rfl ?_
    refine C.iload_n dX9_putMode_5 rfl ?_
    refine C.maldk hL dX9_putMode_6 (by decide) rfl (by decide) rfl (by omega) ?_
    refine C.topI (b := v) ea ?_
    refine C.ic dX9_putMode_7 ?_
    refine C.icmp_neI (tgt := 16) dX9_putMode_8 (by decide) (by omega) (by omega) (fun hc8 => absurd hc8 (fun h => h h2)) (fun hc8 => ?_)
    refine C.lds dX9_putMode_11 (j := 24) rfl ?_
    refine C.goto (tgt := 18) dX9_putMode_13 (by decide) ?_
    refine C.mcall hL (p_word (d := d - 1) (by omega) h tMay hr) cw_X9_putWord ml_X9_250 im_X9_putWord sl_X9_putWord dX9_putMode_18 rfl rfl (by omega) (Nat.le_refl _) (Nat.le_refl _) (Nat.le_of_ble_eq_true rfl) rfl (fun r18 sf18 sa18 hR18 => ?_)
    obtain ⟨rfl, hs1⟩ := hR18
    have eb := e24 _ _ _ _ hs1
    refine C.aload_n dX9_putMode_21 rfl ?_
    refine C.mget hL gf_X9_19 dX9_putMode_22 rfl ?_
    refine C.iload_n dX9_putMode_25 rfl ?_
    refine C.maldk hL dX9_putMode_26 (by decide) rfl (by decide) rfl (by omega) ?_
    refine C.topI (b := v) eb ?_
    refine C.ic dX9_putMode_27 ?_
    refine C.icmp_neI (tgt := 37) dX9_putMode_28 (by decide) (by omega) (by omega) (fun hc28 => ?_) (fun hc28 => absurd hc28 (by omega))
    refine C.vret rfl dX9_putMode_37 (Nat.le_refl _) (Nat.le_refl _) ⟨_, _, ?_, rfl, rfl⟩
    exact ⟨rfl, hs1⟩
  by_cases h1 : v = 1
  · have hw : moT v = zMust ++ 32 :: zNot := by unfold moT; rw [if_neg h2, if_pos h1]
    rw [hw] at hr C
    rw [if_pos h1] at C
    refine C.aload_n dX9_putMode_0 rfl ?_
    refine C.aload_n dX9_putMode_1 rfl ?_
    refine C.mget hL gf_X9_19 dX9_putMode_2 rfl ?_
    refine C.iload_n dX9_putMode_5 rfl ?_
    refine C.maldk hL dX9_putMode_6 (by decide) rfl (by decide) rfl (by omega) ?_
    refine C.topI (b := v) ea ?_
    refine C.ic dX9_putMode_7 ?_
    refine C.icmp_neI (tgt := 16) dX9_putMode_8 (by decide) (by omega) (by omega) (fun hc8 => ?_) (fun hc8 => absurd hc8 h2)
    refine C.lds dX9_putMode_16 (j := 25) rfl ?_
    refine C.mcall hL (p_word (d := d - 1) (by omega) h tMust (by simp at hr ⊢; omega)) cw_X9_putWord ml_X9_250 im_X9_putWord sl_X9_putWord dX9_putMode_18 rfl rfl (by omega) (Nat.le_refl _) (Nat.le_refl _) (Nat.le_of_ble_eq_true rfl) rfl (fun r18 sf18 sa18 hR18 => ?_)
    obtain ⟨rfl, hs1⟩ := hR18
    have eb := e24 _ _ _ _ hs1
    have hF := Ff_t (n := n) (T := T) (xs := sp (Ff n T) ++ zMust) (by simp)
    have hM := p_word (d := d - 1) (by omega) hs1 tNot (by rw [hF]; simp [sp] at hr ⊢; omega)
    rw [hF] at hM
    refine C.aload_n dX9_putMode_21 rfl ?_
    refine C.mget hL gf_X9_19 dX9_putMode_22 rfl ?_
    refine C.iload_n dX9_putMode_25 rfl ?_
    refine C.maldk hL dX9_putMode_26 (by decide) rfl (by decide) rfl (by omega) ?_
    refine C.topI (b := v) eb ?_
    refine C.ic dX9_putMode_27 ?_
    refine C.icmp_neI (tgt := 37) dX9_putMode_28 (by decide) (by omega) (by omega) (fun hc28 => absurd hc28 (fun h => h h1)) (fun hc28 => ?_)
    refine C.aload_n dX9_putMode_31 rfl ?_
    refine C.lds dX9_putMode_32 (j := 17) rfl ?_
    refine C.mcall hL (hM) cw_X9_putWord ml_X9_250 im_X9_putWord sl_X9_putWord dX9_putMode_34 rfl rfl (by omega) (Nat.le_refl _) (Nat.le_refl _) (Nat.le_of_ble_eq_true rfl) rfl (fun r34 sf34 sa34 hR34 => ?_)
    obtain ⟨rfl, hs2⟩ := hR34
    refine C.vret rfl dX9_putMode_37 (Nat.le_refl _) (Nat.le_refl _) ⟨_, _, ?_, rfl, rfl⟩
    refine ⟨rfl, ?_⟩
    have e : T ++ (sp (Ff n T) ++ (zMust ++ 32 :: zNot)) = T ++ (sp (Ff n T) ++ zMust) ++ (sp true ++ zNot) := by simp [sp]
    rw [e]
    exact hs2
  · have hw : moT v = zMust := by unfold moT; rw [if_neg h2, if_neg h1, List.append_nil]
    rw [hw] at hr C
    rw [if_neg h1] at C
    refine C.aload_n dX9_putMode_0 rfl ?_
    refine C.aload_n dX9_putMode_1 rfl ?_
    refine C.mget hL gf_X9_19 dX9_putMode_2 rfl ?_
    refine C.iload_n dX9_putMode_5 rfl ?_
    refine C.maldk hL dX9_putMode_6 (by decide) rfl (by decide) rfl (by omega) ?_
    refine C.topI (b := v) ea ?_
    refine C.ic dX9_putMode_7 ?_
    refine C.icmp_neI (tgt := 16) dX9_putMode_8 (by decide) (by omega) (by omega) (fun hc8 => ?_) (fun hc8 => absurd hc8 h2)
    refine C.lds dX9_putMode_16 (j := 25) rfl ?_
    refine C.mcall hL (p_word (d := d - 1) (by omega) h tMust hr) cw_X9_putWord ml_X9_250 im_X9_putWord sl_X9_putWord dX9_putMode_18 rfl rfl (by omega) (Nat.le_refl _) (Nat.le_refl _) (Nat.le_of_ble_eq_true rfl) rfl (fun r18 sf18 sa18 hR18 => ?_)
    obtain ⟨rfl, hs1⟩ := hR18
    have eb := e24 _ _ _ _ hs1
    refine C.aload_n dX9_putMode_21 rfl ?_
    refine C.mget hL gf_X9_19 dX9_putMode_22 rfl ?_
    refine C.iload_n dX9_putMode_25 rfl ?_
    refine C.maldk hL dX9_putMode_26 (by decide) rfl (by decide) rfl (by omega) ?_
    refine C.topI (b := v) eb ?_
    refine C.ic dX9_putMode_27 ?_
    refine C.icmp_neI (tgt := 37) dX9_putMode_28 (by decide) (by omega) (by omega) (fun hc28 => ?_) (fun hc28 => absurd hc28 h1)
    refine C.vret rfl dX9_putMode_37 (Nat.le_refl _) (Nat.le_refl _) ⟨_, _, ?_, rfl, rfl⟩
    exact ⟨rfl, hs1⟩
/-- acts that follow others; all acts -/
def acR (xs : List Int) : List Int := xs.flatMap (fun v => 32 :: zAnd ++ (32 :: zAct ++ 32 :: dgL v))
def acT (f : Bool) : List Int → List Int
  | [] => []
  | v :: vs => (sp f ++ zAct ++ 32 :: dgL v) ++ acR vs
theorem p_acts {d n wc s : Nat} {xs T : List Int} {s0 sf : SF} {sa0 sa : SA} (hd : 6 ≤ d) (hs : s < 100) (h : WT s0 sa0 n T wc sf sa) (hx : xs.length ≤ 3) (hx1 : 1 ≤ xs.length) (hv : ∀ v ∈ xs, 0 ≤ v ∧ v ≤ 9) (h21 : sa0 21 s = xs.length) (h22 : ∀ k, k < xs.length → sa0 22 (3 * s + k) = xs.getD k 0) (hr : n + (T ++ acT (Ff n T) xs).length + 4 ≤ 9000) : MM yX9_putActs cX9_putActs 3 none d [.int (iI s)] sf sa (fun r sf' sa' => r = none ∧ WT s0 sa0 n (T ++ acT (Ff n T) xs) (wc + 3 * xs.length - 1) sf' sa') := by
  have e21 : ∀ sac T1 sfc wc1, WT s0 sa0 n T1 wc1 sfc sac → sac 21 s = xs.length := fun sac T1 sfc wc1 hq => by rw [hq.2, wrS_ne (by decide)]; exact h21
  have e22 : ∀ sac T1 sfc wc1, WT s0 sa0 n T1 wc1 sfc sac → ∀ k, k < xs.length → sac 22 (3 * s + k) = xs.getD k 0 := fun sac T1 sfc wc1 hq k hk => by rw [hq.2, wrS_ne (by decide)]; exact h22 k hk
  refine MM.of2 (by decide +kernel) rfl (Nat.le_of_ble_eq_true rfl) (fun L g hL X C => ?_)
  have loop : ∀ (ys : List Int) (i w1 : Nat) (T1 : List Int) (sfc : SF) (sac : SA), i + ys.length = xs.length → 1 ≤ i → (∀ k, k < ys.length → xs.getD (i + k) 0 = ys.getD k 0) → (∀ v ∈ ys, 0 ≤ v ∧ v ≤ 9) → Ff n T1 = true → WT s0 sa0 n T1 w1 sfc sac → T1 ++ acR ys = T ++ acT (Ff n T) xs → w1 + 3 * ys.length = wc + 3 * xs.length - 1 → X 0 0 L (ov sfc sac g) 2 [some (.ref 20), some (.int (iI s)), some (.int (iI i))] [] := by
    intro ys
    induction ys with
    | nil =>
      intro i w1 T1 sfc sac hi hi1 hk hv2 hF hW hT hw
      have ea := e21 _ _ _ _ hW
      simp only [List.length_nil, Nat.mul_zero, Nat.add_zero] at hi hw
      simp only [acR, List.flatMap_nil, List.append_nil] at hT
      refine C.iload_n dX9_putActs_2 rfl ?_
      refine C.aload_n dX9_putActs_3 rfl ?_
      refine C.mget hL gf_X9_9 dX9_putActs_4 rfl ?_
      refine C.iload_n dX9_putActs_7 rfl ?_
      refine C.maldk hL dX9_putActs_8 (by decide) rfl (by decide) rfl (by omega) ?_
      refine C.topI (b := (xs.length : Int)) ea ?_
      refine C.icmp_geI (tgt := 48) dX9_putActs_9 (by decide) (by omega) (by omega) (fun hc9 => ?_) (fun hc9 => absurd hc9 (by omega))
      refine C.vret rfl dX9_putActs_48 (Nat.le_refl _) (Nat.le_refl _) ⟨_, _, ?_, rfl, rfl⟩
      rw [← hT, ← hw]
      exact ⟨rfl, hW⟩
    | cons y ys ih =>
      intro i w1 T1 sfc sac hi hi1 hk hv2 hF hW hT hw
      have ea := e21 _ _ _ _ hW
      simp only [List.length_cons] at hi hw
      have hy := hv2 y List.mem_cons_self
      have hT1 : T1 ++ (sp true ++ zAnd) ++ (sp true ++ zAct) ++ (32 :: dgL y) ++ acR ys = T ++ acT (Ff n T) xs := by rw [← hT]; simp [acR, sp]
      rw [← hT1] at hr
      have hA := p_word (d := d - 1) (by omega) hW tAnd (by rw [hF]; simp at hr ⊢; omega)
      rw [hF] at hA
      refine C.iload_n dX9_putActs_2 rfl ?_
      refine C.aload_n dX9_putActs_3 rfl ?_
      refine C.mget hL gf_X9_9 dX9_putActs_4 rfl ?_
      refine C.iload_n dX9_putActs_7 rfl ?_
      refine C.maldk hL dX9_putActs_8 (by decide) rfl (by decide) rfl (by omega) ?_
      refine C.topI (b := (xs.length : Int)) ea ?_
      refine C.icmp_geI (tgt := 48) dX9_putActs_9 (by decide) (by omega) (by omega) (fun hc9 => absurd hc9 (by omega)) (fun hc9 => ?_)
      refine C.iload_n dX9_putActs_12 rfl ?_
      refine C.if_leI (tgt := 22) dX9_putActs_13 (by decide) (by omega) (fun hc13 => absurd hc13 (by omega)) (fun hc13 => ?_)
      refine C.aload_n dX9_putActs_16 rfl ?_
      refine C.lds dX9_putActs_17 (j := 19) rfl ?_
      refine C.mcall hL (hA) cw_X9_putWord ml_X9_250 im_X9_putWord sl_X9_putWord dX9_putActs_19 rfl rfl (by omega) (Nat.le_refl _) (Nat.le_refl _) (Nat.le_of_ble_eq_true rfl) rfl (fun r19 sf19 sa19 hR19 => ?_)
      obtain ⟨rfl, hs1⟩ := hR19
      have hF1 := Ff_t (n := n) (T := T1) (xs := sp true ++ zAnd) (by simp)
      have hB := p_word (d := d - 1) (by omega) hs1 tAct (by rw [hF1]; simp at hr ⊢; omega)
      rw [hF1] at hB
      refine C.aload_n dX9_putActs_22 rfl ?_
      refine C.lds dX9_putActs_23 (j := 26) rfl ?_
      refine C.mcall hL (hB) cw_X9_putWord ml_X9_250 im_X9_putWord sl_X9_putWord dX9_putActs_25 rfl rfl (by omega) (Nat.le_refl _) (Nat.le_refl _) (Nat.le_of_ble_eq_true rfl) rfl (fun r25 sf25 sa25 hR25 => ?_)
      obtain ⟨rfl, hs2⟩ := hR25
      have hN := p_num (d := d - 1) (v := y) hs2 (by omega) (by simp at hr ⊢; omega)
      have eb := e22 _ _ _ _ hs2 i (by omega)
      rw [show xs.getD i 0 = y from hk 0 (by simp)] at eb
      refine C.aload_n dX9_putActs_28 rfl ?_
      refine C.aload_n dX9_putActs_29 rfl ?_
      refine C.mget hL gf_X9_13 dX9_putActs_30 rfl ?_
      refine C.ic dX9_putActs_33 ?_
      refine C.iload_n dX9_putActs_34 rfl ?_
      refine C.imulI dX9_putActs_35 ?_
      refine C.iload_n dX9_putActs_36 rfl ?_
      refine C.iaddI dX9_putActs_37 ?_
      refine C.maldk hL (k := 3 * s + i) dX9_putActs_38 (by decide) rfl (by decide) (by omega) (by omega) ?_
      refine C.topI (b := y) eb ?_
      refine C.mcall hL (hN) cw_X9_putNumber ml_X9_254 im_X9_putNumber sl_X9_putNumber dX9_putActs_39 rfl rfl (by omega) (Nat.le_refl _) (Nat.le_refl _) (Nat.le_of_ble_eq_true rfl) rfl (fun r39 sf39 sa39 hR39 => ?_)
      obtain ⟨rfl, hs3⟩ := hR39
      refine C.iincI dX9_putActs_42 rfl (by decide) rfl ?_
      refine C.goto (tgt := 2) dX9_putActs_45 (by decide) ?_
      exact ih (i + 1) _ _ _ _ (by omega) (by omega) (fun k hkl => by have := hk (k + 1) (by simp only [List.length_cons]; omega); rw [List.getD_cons_succ] at this; rw [← this]; congr 1; omega) (fun v hv => hv2 v (List.mem_cons_of_mem _ hv)) (Ff_t (by simp)) hs3 hT1 (by omega)
  cases xs with
  | nil => simp at hx1
  | cons y ys =>
    have ea := e21 _ _ _ _ h
    have hy := hv y List.mem_cons_self
    simp only [List.length_cons] at ea hx
    have hT1 : T ++ (sp (Ff n T) ++ zAct) ++ (32 :: dgL y) ++ acR ys = T ++ acT (Ff n T) (y :: ys) := by simp [acT]
    rw [← hT1] at hr
    have hB := p_word (d := d - 1) (by omega) h tAct (by simp at hr ⊢; omega)
    refine C.ic dX9_putActs_0 ?_
    refine C.istore_n dX9_putActs_1 (by decide) rfl ?_
    skip
    refine C.iload_n dX9_putActs_2 rfl ?_
    refine C.aload_n dX9_putActs_3 rfl ?_
    refine C.mget hL gf_X9_9 dX9_putActs_4 rfl ?_
    refine C.iload_n dX9_putActs_7 rfl ?_
    refine C.maldk hL dX9_putActs_8 (by decide) rfl (by decide) rfl (by omega) ?_
    refine C.topI (b := ((ys.length + 1 : Nat) : Int)) ea ?_
    refine C.icmp_geI (tgt := 48) dX9_putActs_9 (by decide) (by omega) (by omega) (fun hc9 => absurd hc9 (by omega)) (fun hc9 => ?_)
    refine C.iload_n dX9_putActs_12 rfl ?_
    refine C.if_leI (tgt := 22) dX9_putActs_13 (by decide) (by omega) (fun hc13 => ?_) (fun hc13 => absurd hc13 (by omega))
    refine C.aload_n dX9_putActs_22 rfl ?_
    refine C.lds dX9_putActs_23 (j := 26) rfl ?_
    refine C.mcall hL (hB) cw_X9_putWord ml_X9_250 im_X9_putWord sl_X9_putWord dX9_putActs_25 rfl rfl (by omega) (Nat.le_refl _) (Nat.le_refl _) (Nat.le_of_ble_eq_true rfl) rfl (fun r25 sf25 sa25 hR25 => ?_)
    obtain ⟨rfl, hs2⟩ := hR25
    have hN := p_num (d := d - 1) (v := y) hs2 (by omega) (by simp at hr ⊢; omega)
    have eb : sa25 22 (3 * s) = y := e22 _ _ _ _ hs2 0 (by simp)
    refine C.aload_n dX9_putActs_28 rfl ?_
    refine C.aload_n dX9_putActs_29 rfl ?_
    refine C.mget hL gf_X9_13 dX9_putActs_30 rfl ?_
    refine C.ic dX9_putActs_33 ?_
    refine C.iload_n dX9_putActs_34 rfl ?_
    refine C.imulI dX9_putActs_35 ?_
    refine C.iload_n dX9_putActs_36 rfl ?_
    refine C.iaddI dX9_putActs_37 ?_
    refine C.maldk hL (k := 3 * s) dX9_putActs_38 (by decide) rfl (by decide) (by omega) (by omega) ?_
    refine C.topI (b := y) eb ?_
    refine C.mcall hL (hN) cw_X9_putNumber ml_X9_254 im_X9_putNumber sl_X9_putNumber dX9_putActs_39 rfl rfl (by omega) (Nat.le_refl _) (Nat.le_refl _) (Nat.le_of_ble_eq_true rfl) rfl (fun r39 sf39 sa39 hR39 => ?_)
    obtain ⟨rfl, hs3⟩ := hR39
    refine C.iincI dX9_putActs_42 rfl (by decide) rfl ?_
    refine C.goto (tgt := 2) dX9_putActs_45 (by decide) ?_
    exact loop ys 1 _ _ _ _ (by simp; omega) (by omega) (fun k hkl => by rw [Nat.add_comm, List.getD_cons_succ]) (fun v hv' => hv v (List.mem_cons_of_mem _ hv')) (Ff_t (by simp)) hs3 hT1 (by simp; omega)
