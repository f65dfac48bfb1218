/-- all int fields but those of reading are as they were -/
def Gf (sf sf' : SF) : Prop := ∀ j, j ≠ 17 → j ≠ 18 → j ≠ 19 → j ≠ 22 → j ≠ 24 → j ≠ 26 → sf' j = sf j
theorem Gf.rf {sf : SF} : Gf sf sf := fun _ _ _ _ _ _ _ => rfl
theorem Gf.tr {s1 s2 s3 : SF} (h1 : Gf s1 s2) (h2 : Gf s2 s3) : Gf s1 s3 := fun j a b c d e f => (h2 j a b c d e f).trans (h1 j a b c d e f)
theorem Gf.P {sf : SF} {p b : Int} : Gf sf (sfP sf p b) := fun j _ _ _ d e _ => by unfold sfP; rw [va_up_ne _ _ e, va_up_ne _ _ d]
theorem Gf.up {s1 s2 : SF} (h : Gf s1 s2) {k : Nat} {v : Int} (hk : k = 17 ∨ k = 18 ∨ k = 19 ∨ k = 22 ∨ k = 24 ∨ k = 26) : Gf s1 (va_up s2 k v) := fun j a b c d e f => by
  rw [va_up_ne _ _ (by omega)]
  exact h j a b c d e f
/-- where reading stands -/
def PD (e p : Nat) (sf : SF) (sa : SA) : Prop := sf 22 = p ∧ sf 23 = e ∧ p ≤ e ∧ e ≤ 400 ∧ TB sa
theorem PD.go {e p q : Nat} {sf sf' : SF} {sa sa' : SA} (h : PD e p sf sa) (hg : Gf sf sf') (h22 : sf' 22 = q) (hq : q ≤ e) (h32 : sa' 32 = sa 32) : PD e q sf' sa' :=
  ⟨h22, by rw [hg 23 (by decide) (by decide) (by decide) (by decide) (by decide) (by decide)]; exact h.2.1, hq, h.2.2.2.1, fun j => by rw [h32]; exact h.2.2.2.2 j⟩
theorem m_passesG {d p e j : Nat} {zs : List Int} (hd : 5 ≤ d) {sf : SF} {sa : SA} (h : PD e p sf sa) (ht : TX j zs) : MM yX9_passes cX9_passes 2 (some .boolean) d [.ref (1000 + j)] sf sa (fun r sf' sa' => r = some (.int (iI (b2i (psP (sa 32) e p zs)))) ∧ (Gf sf sf' ∧ sf' 22 = (if psP (sa 32) e p zs then wend (sa 32) e (bl (sa 32) e p) else bl (sa 32) e p : Nat) ∧ sf' 24 = bl (sa 32) e p) ∧ sa' = sa) :=
  (m_passes hd h.1 h.2.1 h.2.2.2.1 h.2.2.1 h.2.2.2.2 ht).imp (fun r sf' sa' hr => by
    obtain ⟨h1, rfl, h3⟩ := hr
    exact ⟨h1, ⟨Gf.P, rfl, rfl⟩, h3⟩)
theorem m_signG {d p e : Nat} {c : Int} (hd : 2 ≤ d) {sf : SF} {sa : SA} (h : PD e p sf sa) (hc : 0 ≤ c ∧ c < 128) : MM yX9_sign cX9_sign 2 (some .boolean) d [.int (iI c)] sf sa (fun r sf' sa' => r = some (.int (iI (b2i (sgP (sa 32) e p c)))) ∧ (Gf sf sf' ∧ sf' 22 = (if sgP (sa 32) e p c then bl (sa 32) e p + 1 else bl (sa 32) e p : Nat) ∧ sf' 24 = bl (sa 32) e p) ∧ sa' = sa) :=
  (m_sign hd h.1 h.2.1 h.2.2.2.1 h.2.2.1 h.2.2.2.2 hc).imp (fun r sf' sa' hr => by
    obtain ⟨h1, rfl, h3⟩ := hr
    exact ⟨h1, ⟨Gf.P, rfl, rfl⟩, h3⟩)
theorem m_numberG {d p e : Nat} {lo hi : Int} (hd : 2 ≤ d) {sf : SF} {sa : SA} (h : PD e p sf sa) (hlo : 0 ≤ lo ∧ lo < 1000) (hhi : 0 ≤ hi ∧ hi < 1000) : MM yX9_number cX9_number 4 (some .int) d [.int (iI lo), .int (iI hi)] sf sa (fun r sf' sa' => r = some (.int (iI (nmV (sa 32) e (bl (sa 32) e p) lo hi))) ∧ (Gf sf sf' ∧ sf' 22 = (dend (sa 32) e (bl (sa 32) e p) : Nat) ∧ sf' 24 = bl (sa 32) e p) ∧ sa' = sa) :=
  (m_number hd h.1 h.2.1 h.2.2.2.1 h.2.2.1 h.2.2.2.2 hlo hhi).imp (fun r sf' sa' hr => by
    obtain ⟨h1, rfl, h3⟩ := hr
    exact ⟨h1, ⟨Gf.P, rfl, rfl⟩, h3⟩)
abbrev zYou : List Int := [121, 111, 117]
abbrev zWe : List Int := [119, 101]
abbrev zThey : List Int := [116, 104, 101, 121]
abbrev zMay : List Int := [109, 97, 121]
abbrev zMust : List Int := [109, 117, 115, 116]
abbrev zAct : List Int := [97, 99, 116]
abbrev zBe : List Int := [98, 101]
abbrev zDone : List Int := [100, 111, 110, 101]
abbrev zBy : List Int := [98, 121]
abbrev zIf : List Int := [105, 102]
abbrev zUnless : List Int := [117, 110, 108, 101, 115, 115]
abbrev zWithin : List Int := [119, 105, 116, 104, 105, 110]
theorem tAnd : TX 19 zAnd := ⟨⟨_, rfl, by decide⟩, by decide, by decide⟩
theorem tNot : TX 17 zNot := ⟨⟨_, rfl, by decide⟩, by decide, by decide⟩
theorem tYou : TX 21 zYou := ⟨⟨_, rfl, by decide⟩, by decide, by decide⟩
theorem tWe : TX 22 zWe := ⟨⟨_, rfl, by decide⟩, by decide, by decide⟩
theorem tThey : TX 23 zThey := ⟨⟨_, rfl, by decide⟩, by decide, by decide⟩
theorem tMay : TX 24 zMay := ⟨⟨_, rfl, by decide⟩, by decide, by decide⟩
theorem tMust : TX 25 zMust := ⟨⟨_, rfl, by decide⟩, by decide, by decide⟩
theorem tAct : TX 26 zAct := ⟨⟨_, rfl, by decide⟩, by decide, by decide⟩
theorem tBe : TX 27 zBe := ⟨⟨_, rfl, by decide⟩, by decide, by decide⟩
theorem tDone : TX 28 zDone := ⟨⟨_, rfl, by decide⟩, by decide, by decide⟩
theorem tBy : TX 29 zBy := ⟨⟨_, rfl, by decide⟩, by decide, by decide⟩
theorem tIf : TX 30 zIf := ⟨⟨_, rfl, by decide⟩, by decide, by decide⟩
theorem tUnless : TX 31 zUnless := ⟨⟨_, rfl, by decide⟩, by decide, by decide⟩
theorem tWithin : TX 32 zWithin := ⟨⟨_, rfl, by decide⟩, by decide, by decide⟩
/-- who: 0 you, 1 we, 2 they, -1 none of them -/
def whoV (tb : Nat → Int) (e p : Nat) : Int := if psP tb e p zYou then 0 else if psP tb e p zWe then 1 else if psP tb e p zThey then 2 else -1
def whoQ (tb : Nat → Int) (e p : Nat) : Nat := if whoV tb e p < 0 then bl tb e p else wend tb e (bl tb e p)
theorem whoQ_le {tb : Nat → Int} {e p : Nat} (h : p ≤ e) : whoQ tb e p ≤ e := by
  have h1 := bl_le (tb := tb) h
  have h2 := wend_le (tb := tb) h1
  unfold whoQ
  split <;> omega
set_option maxRecDepth 20000 in
theorem m_readWho {d p e : Nat} (hd : 6 ≤ d) {sf : SF} {sa : SA} (h : PD e p sf sa) : MM yX9_readWho cX9_readWho 1 (some .int) d [] sf sa (fun r sf' sa' => r = some (.int (iI (whoV (sa 32) e p))) ∧ (Gf sf sf' ∧ sf' 22 = (whoQ (sa 32) e p : Nat) ∧ sf' 24 = bl (sa 32) e p) ∧ sa' = sa) := by
  have hb := bl_le (tb := sa 32) h.2.2.1
  refine MM.of2 (by decide +kernel) rfl (Nat.le_of_ble_eq_true rfl) (fun L g hL X C => ?_)
  have h1 := m_passesG (d := d - 1) (by omega) h tYou
  cases c1 : psP (sa 32) e p zYou with
  | true =>
    rw [c1] at h1
    refine C.aload_n dX9_readWho_0 rfl ?_
    refine C.lds dX9_readWho_1 (j := 21) rfl ?_
    refine C.mcall hL (h1) cw_X9_passes ml_X9_143 im_X9_passes sl_X9_passes dX9_readWho_3 rfl rfl (by omega) (Nat.le_refl _) (Nat.le_refl _) (Nat.le_of_ble_eq_true rfl) rfl (fun r3 sf3 sa3 hR3 => ?_)
    obtain ⟨rfl, ⟨g1, g2, g3⟩, ha⟩ := hR3
    rw [ha]
    clear ha
    refine C.if_eqI (tgt := 13) dX9_readWho_6 (by decide) (by decide) (fun hc6 => absurd hc6 (by decide)) (fun hc6 => ?_)
    refine C.ic dX9_readWho_9 ?_
    refine C.goto (tgt := 40) dX9_readWho_10 (by decide) ?_
    refine C.retI rfl rfl dX9_readWho_40 (Nat.le_refl _) (Nat.le_refl _) ⟨_, _, ?_, rfl, rfl⟩
    unfold whoQ whoV
    rw [c1]
    exact ⟨rfl, ⟨g1, g2, g3⟩, rfl⟩
  | false =>
    rw [c1] at h1
    refine C.aload_n dX9_readWho_0 rfl ?_
    refine C.lds dX9_readWho_1 (j := 21) rfl ?_
    refine C.mcall hL (h1) cw_X9_passes ml_X9_143 im_X9_passes sl_X9_passes dX9_readWho_3 rfl rfl (by omega) (Nat.le_refl _) (Nat.le_refl _) (Nat.le_of_ble_eq_true rfl) rfl (fun r3 sf3 sa3 hR3 => ?_)
    obtain ⟨rfl, ⟨g1, g2, g3⟩, ha⟩ := hR3
    rw [ha]
    clear ha
    have hq := h.go (q := bl (sa 32) e p) g1 g2 hb rfl
    have h2 := m_passesG (d := d - 1) (by omega) hq tWe
    rw [psP_bl, bl_bl] at h2
    refine C.if_eqI (tgt := 13) dX9_readWho_6 (by decide) (by decide) (fun hc6 => ?_) (fun hc6 => absurd hc6 (fun h => h rfl))
    cases c2 : psP (sa 32) e p zWe with
    | true =>
      rw [c2] at h2
      refine C.aload_n dX9_readWho_13 rfl ?_
      refine C.lds dX9_readWho_14 (j := 22) rfl ?_
      refine C.mcall hL h2 cw_X9_passes ml_X9_143 im_X9_passes sl_X9_passes dX9_readWho_16 rfl rfl (by omega) (Nat.le_refl _) (Nat.le_refl _) (Nat.le_of_ble_eq_true rfl) rfl (fun r16 sf16 sa16 hR16 => ?_)
      obtain ⟨rfl, ⟨k1, k2, k3⟩, ha⟩ := hR16
      rw [ha]
      clear ha
      refine C.if_eqI (tgt := 26) dX9_readWho_19 (by decide) (by decide) (fun h => absurd h (by decide)) (fun _ => ?_)
      refine C.ic dX9_readWho_22 ?_
      refine C.goto (tgt := 40) dX9_readWho_23 (by decide) ?_
      refine C.retI rfl rfl dX9_readWho_40 (Nat.le_refl _) (Nat.le_refl _) ⟨_, _, ?_, rfl, rfl⟩
      unfold whoQ whoV
      rw [c1, c2]
      exact ⟨rfl, ⟨g1.tr k1, k2, k3⟩, rfl⟩
    | false =>
      rw [c2] at h2
      refine C.aload_n dX9_readWho_13 rfl ?_
      refine C.lds dX9_readWho_14 (j := 22) rfl ?_
      refine C.mcall hL h2 cw_X9_passes ml_X9_143 im_X9_passes sl_X9_passes dX9_readWho_16 rfl rfl (by omega) (Nat.le_refl _) (Nat.le_refl _) (Nat.le_of_ble_eq_true rfl) rfl (fun r16 sf16 sa16 hR16 => ?_)
      obtain ⟨rfl, ⟨k1, k2, k3⟩, ha⟩ := hR16
      rw [ha]
      clear ha
      refine C.if_eqI (tgt := 26) dX9_readWho_19 (by decide) (by decide) (fun _ => ?_) (fun h => absurd rfl h)
      have hq3 := hq.go (q := bl (sa 32) e p) k1 k2 hb rfl
      have h3 := m_passesG (d := d - 1) (by omega) hq3 tThey
      rw [psP_bl, bl_bl] at h3
      refine C.aload_n dX9_readWho_26 rfl ?_
      refine C.lds dX9_readWho_27 (j := 23) rfl ?_
      refine C.mcall hL h3 cw_X9_passes ml_X9_143 im_X9_passes sl_X9_passes dX9_readWho_29 rfl rfl (by omega) (Nat.le_refl _) (Nat.le_refl _) (Nat.le_of_ble_eq_true rfl) rfl (fun r29 sf29 sa29 hR29 => ?_)
      obtain ⟨rfl, ⟨n1, n2, n3⟩, ha⟩ := hR29
      rw [ha]
      clear ha
      cases c3 : psP (sa 32) e p zThey with
      | true =>
        rw [c3] at n2
        refine C.if_eqI (tgt := 39) dX9_readWho_32 (by decide) (by decide) (fun h => absurd h (by decide)) (fun _ => ?_)
        refine C.ic dX9_readWho_35 ?_
        refine C.goto (tgt := 40) dX9_readWho_36 (by decide) ?_
        refine C.retI rfl rfl dX9_readWho_40 (Nat.le_refl _) (Nat.le_refl _) ⟨_, _, ?_, rfl, rfl⟩
        unfold whoQ whoV
        rw [c1, c2, c3]
        exact ⟨rfl, ⟨(g1.tr k1).tr n1, n2, n3⟩, rfl⟩
      | false =>
        rw [c3] at n2
        refine C.if_eqI (tgt := 39) dX9_readWho_32 (by decide) (by decide) (fun _ => ?_) (fun h => absurd rfl h)
        refine C.ic dX9_readWho_39 ?_
        refine C.retI rfl rfl dX9_readWho_40 (Nat.le_refl _) (Nat.le_refl _) ⟨_, _, ?_, rfl, rfl⟩
        unfold whoQ whoV
        rw [c1, c2, c3]
        exact ⟨rfl, ⟨(g1.tr k1).tr n1, n2, n3⟩, rfl⟩
/-- must 0, must not 1, may 2, -1 none of them; and where reading goes on -/
def modV (tb : Nat → Int) (e p : Nat) : Int := if psP tb e p zMay then 2 else if psP tb e p zMust then (if psP tb e (wend tb e (bl tb e p)) zNot then 1 else 0) else -1
def modQ (tb : Nat → Int) (e p : Nat) : Nat := if psP tb e p zMay then wend tb e (bl tb e p) else if psP tb e p zMust then (if psP tb e (wend tb e (bl tb e p)) zNot then wend tb e (bl tb e (wend tb e (bl tb e p))) else bl tb e (wend tb e (bl tb e p))) else bl tb e p
theorem modQ_le {tb : Nat → Int} {e p : Nat} (h : p ≤ e) : modQ tb e p ≤ e := by
  have h1 := bl_le (tb := tb) h
  have h2 := wend_le (tb := tb) h1
  have h3 := bl_le (tb := tb) h2
  have h4 := wend_le (tb := tb) h3
  unfold modQ
  repeat' split
  all_goals omega
set_option maxRecDepth 20000 in
theorem m_readMode {d p e s : Nat} (hd : 6 ≤ d) (hs : s < 100) {sf : SF} {sa : SA} (h : PD e p sf sa) : MM yX9_readMode cX9_readMode 2 (some .boolean) d [.int (iI s)] sf sa (fun r sf' sa' => r = some (.int (iI (b2i (decide (0 ≤ modV (sa 32) e p))))) ∧ (Gf sf sf' ∧ sf' 22 = (modQ (sa 32) e p : Nat) ∧ (modV (sa 32) e p < 0 → sf' 24 = bl (sa 32) e p)) ∧ sa' = if modV (sa 32) e p < 0 then sa else va_up sa 24 (va_up (sa 24) s (modV (sa 32) e p))) := by
  have hb := bl_le (tb := sa 32) h.2.2.1
  have hw := wend_le (tb := sa 32) hb
  refine MM.of2 (by decide +kernel) rfl (Nat.le_of_ble_eq_true rfl) (fun L g hL X C => ?_)
  have h1 := m_passesG (d := d - 1) (by omega) h tMay
  cases c1 : psP (sa 32) e p zMay with
  | true =>
    have ev : modV (sa 32) e p = 2 := by unfold modV; rw [c1]; rfl
    have eq : modQ (sa 32) e p = wend (sa 32) e (bl (sa 32) e p) := by unfold modQ; rw [c1]; rfl
    rw [c1] at h1
    refine C.aload_n dX9_readMode_0 rfl ?_
    refine C.lds dX9_readMode_1 (j := 24) rfl ?_
    refine C.mcall hL (h1) cw_X9_passes ml_X9_143 im_X9_passes sl_X9_passes dX9_readMode_3 rfl rfl (by omega) (Nat.le_refl _) (Nat.le_refl _) (Nat.le_of_ble_eq_true rfl) rfl (fun r3 sf3 sa3 hR3 => ?_)
    obtain ⟨rfl, ⟨g1, g2, g3⟩, ha⟩ := hR3
    rw [ha]
    clear ha
    refine C.if_eqI (tgt := 18) dX9_readMode_6 (by decide) (by decide) (fun hc6 => absurd hc6 (by decide)) (fun hc6 => ?_)
    refine C.aload_n dX9_readMode_9 rfl ?_
    refine C.mget hL gf_X9_19 dX9_readMode_10 rfl ?_
    refine C.iload_n dX9_readMode_13 rfl ?_
    refine C.ic dX9_readMode_14 ?_
    refine C.mastk hL (ovs_24 _ _ _) dX9_readMode_15 (by decide) rfl (by decide) rfl (by omega) ?_
    refine C.ic dX9_readMode_16 ?_
    refine C.retI rfl (by first | rfl | (exact (iI_bool (by first | exact Or.inl rfl | exact Or.inr rfl | assumption)).1)) dX9_readMode_17 (Nat.le_refl _) (Nat.le_refl _) ⟨_, _, ?_, rfl, rfl⟩
    rw [ev, eq]
    exact ⟨rfl, ⟨g1, g2, fun h => absurd h (by decide)⟩, rfl⟩
  | false =>
    rw [c1] at h1
    refine C.aload_n dX9_readMode_0 rfl ?_
    refine C.lds dX9_readMode_1 (j := 24) rfl ?_
    refine C.mcall hL (h1) cw_X9_passes ml_X9_143 im_X9_passes sl_X9_passes dX9_readMode_3 rfl rfl (by omega) (Nat.le_refl _) (Nat.le_refl _) (Nat.le_of_ble_eq_true rfl) rfl (fun r3 sf3 sa3 hR3 => ?_)
    obtain ⟨rfl, ⟨g1, g2, g3⟩, ha⟩ := hR3
    rw [ha]
    clear ha
    have hq := h.go (q := bl (sa 32) e p) g1 g2 hb rfl
    have h2 := m_passesG (d := d - 1) (by omega) hq tMust
    rw [psP_bl, bl_bl] at h2
    refine C.if_eqI (tgt := 18) dX9_readMode_6 (by decide) (by decide) (fun hc6 => ?_) (fun hc6 => absurd hc6 (fun h => h rfl))
    refine C.aload_n dX9_readMode_18 rfl ?_
    refine C.lds dX9_readMode_19 (j := 25) rfl ?_
    refine C.mcall hL (h2) cw_X9_passes ml_X9_143 im_X9_passes sl_X9_passes dX9_readMode_21 rfl rfl (by omega) (Nat.le_refl _) (Nat.le_refl _) (Nat.le_of_ble_eq_true rfl) rfl (fun r21 sf21 sa21 hR21 => ?_)
    obtain ⟨rfl, ⟨k1, k2, k3⟩, ha⟩ := hR21
    rw [ha]
    clear ha
    cases c2 : psP (sa 32) e p zMust with
    | false =>
      rw [c2] at k2
      have ev : modV (sa 32) e p = -1 := by unfold modV; rw [c1, c2]; rfl
      have eq : modQ (sa 32) e p = bl (sa 32) e p := by unfold modQ; rw [c1, c2]; rfl
      refine C.if_neI (tgt := 29) dX9_readMode_24 (by decide) (by decide) (fun h => absurd rfl h) (fun _ => ?_)
      refine C.ic dX9_readMode_27 ?_
      refine C.retI rfl (by decide) dX9_readMode_28 (Nat.le_refl _) (Nat.le_refl _) ⟨_, _, ?_, rfl, rfl⟩
      rw [ev, eq]
      exact ⟨rfl, ⟨g1.tr k1, k2, fun _ => k3⟩, rfl⟩
    | true =>
      rw [c2] at k2
      have hq2 := hq.go (q := wend (sa 32) e (bl (sa 32) e p)) k1 k2 hw rfl
      have h3 := m_passesG (d := d - 1) (by omega) hq2 tNot
      refine C.if_neI (tgt := 29) dX9_readMode_24 (by decide) (by decide) (fun _ => ?_) (fun h => absurd h (by decide))
      refine C.aload_n dX9_readMode_29 rfl ?_
      refine C.mget hL gf_X9_19 dX9_readMode_30 rfl ?_
      refine C.iload_n dX9_readMode_33 rfl ?_
      refine C.aload_n dX9_readMode_34 rfl ?_
      refine C.lds dX9_readMode_35 (j := 17) rfl ?_
      refine C.mcall hL h3 cw_X9_passes ml_X9_143 im_X9_passes sl_X9_passes dX9_readMode_37 rfl rfl (by omega) (Nat.le_refl _) (Nat.le_refl _) (Nat.le_of_ble_eq_true rfl) rfl (fun r37 sf37 sa37 hR37 => ?_)
      obtain ⟨rfl, ⟨n1, n2, n3⟩, ha⟩ := hR37
      rw [ha]
      clear ha
      cases c3 : psP (sa 32) e (wend (sa 32) e (bl (sa 32) e p)) zNot with
      | true =>
        rw [c3] at n2
        have ev : modV (sa 32) e p = 1 := by unfold modV; rw [c1, c2, c3]; rfl
        have eq : modQ (sa 32) e p = wend (sa 32) e (bl (sa 32) e (wend (sa 32) e (bl (sa 32) e p))) := by unfold modQ; rw [c1, c2, c3]; rfl
        refine C.if_eqI (tgt := 47) dX9_readMode_40 (by decide) (by decide) (fun h => absurd h (by decide)) (fun _ => ?_)
        refine C.ic dX9_readMode_43 ?_
        refine C.goto (tgt := 48) dX9_readMode_44 (by decide) ?_
        refine C.mastk hL (ovs_24 _ _ _) dX9_readMode_48 (by decide) rfl (by decide) rfl (by omega) ?_
        refine C.ic dX9_readMode_49 ?_
        refine C.retI rfl (by decide) dX9_readMode_50 (Nat.le_refl _) (Nat.le_refl _) ⟨_, _, ?_, rfl, rfl⟩
        rw [ev, eq]
        exact ⟨rfl, ⟨(g1.tr k1).tr n1, n2, fun h => absurd h (by decide)⟩, rfl⟩
      | false =>
        rw [c3] at n2
        have ev : modV (sa 32) e p = 0 := by unfold modV; rw [c1, c2, c3]; rfl
        have eq : modQ (sa 32) e p = bl (sa 32) e (wend (sa 32) e (bl (sa 32) e p)) := by unfold modQ; rw [c1, c2, c3]; rfl
        refine C.if_eqI (tgt := 47) dX9_readMode_40 (by decide) (by decide) (fun _ => ?_) (fun h => absurd rfl h)
        refine C.ic dX9_readMode_47 ?_
        refine C.mastk hL (ovs_24 _ _ _) dX9_readMode_48 (by decide) rfl (by decide) rfl (by omega) ?_
        refine C.ic dX9_readMode_49 ?_
        refine C.retI rfl (by decide) dX9_readMode_50 (Nat.le_refl _) (Nat.le_refl _) ⟨_, _, ?_, rfl, rfl⟩
        rw [ev, eq]
        exact ⟨rfl, ⟨(g1.tr k1).tr n1, n2, fun h => absurd h (by decide)⟩, rfl⟩
/-- row c holds the condition -/
def RowAt (sa : SA) (c : Nat) (o : Option TT) : Prop := match o with
  | none => sa 27 c = 0
  | some t => sa 27 c = (cd t 0).length ∧ (∀ j, j < (cd t 0).length → sa 28 (c * 420 + j) = (cd t 0).getD j 0) ∧ isT t ∧ (cd t 0).length ≤ 400
/-- all rows but the places' and row c are as they were -/
def GbC (sa sa' : SA) (c : Nat) : Prop := ∀ a j, a ≠ 29 → a ≠ 30 → a ≠ 31 → ¬ (a = 27 ∧ j = c) → ¬ (a = 28 ∧ c * 420 ≤ j ∧ j < c * 420 + 420) → sa' a j = sa a j
set_option maxRecDepth 20000 in
theorem m_readInto {d p e c : Nat} (hd : 60 ≤ d) (hc : c < 200) {sf : SF} {sa : SA} (h : PD e p sf sa) : MM yX9_readInto cX9_readInto 3 (some .boolean) d [.int (iI c)] sf sa (fun r sf' sa' => match condP (sa 32) e 12 p with
    | .inl q => r = some (.int (iI 1)) ∧ (Gf sf sf' ∧ sf' 22 = q.2) ∧ GbC sa sa' c ∧ RowAt sa' c (some q.1)
    | .inr b => r = some (.int (iI 0)) ∧ (Gf sf sf' ∧ sf' 24 = b) ∧ GbC sa sa' c) := by
  obtain ⟨h22, h23, hpe, he, htb⟩ := id h
  have hM := m_readCond (k := 12) (e := e) (by omega) (fun h1 h2 => m_readAllOf (by omega) (m_readItem 12 (by omega)) h1 h2) (d := d - 1) (p := p) (pl := 0) (sf := va_up (va_up sf 17 0) 26 0) (sa := sa) (by omega) ⟨h22, h23, rfl, rfl, hpe, he, htb, by omega⟩
  have hG0 : ∀ a b q, Gf sf (sfR (va_up (va_up sf 17 0) 26 0) a b q) := fun a b q j c1 c2 c3 c4 c5 c6 => by
    rw [sfR_o c1 c4 c5, va_up_ne _ _ c6, va_up_ne _ _ c1]
  change MM _ _ _ _ _ _ _ _ (RP _ (condP (sa 32) e 12 p) _ _ _ _) at hM
  cases hf : condP (sa 32) e 12 p with
  | inr b =>
    rw [hf] at hM
    refine MM.of2 (by decide +kernel) rfl (Nat.le_of_ble_eq_true rfl) (fun L g hL X C => ?_)
    refine C.aload_n dX9_readInto_0 rfl ?_
    refine C.ic dX9_readInto_1 ?_
    refine C.mput hL pf_X9_62 dX9_readInto_2 (by decide) rfl ?_
    refine C.aload_n dX9_readInto_5 rfl ?_
    refine C.ic dX9_readInto_6 ?_
    refine C.mput hL pf_X9_135 dX9_readInto_7 (by decide) rfl ?_
    refine C.aload_n dX9_readInto_10 rfl ?_
    refine C.mcall hL (hM) cw_X9_readCond ml_X9_138 im_X9_readCond sl_X9_readCond dX9_readInto_11 rfl rfl (by omega) (Nat.le_refl _) (Nat.le_refl _) (Nat.le_of_ble_eq_true rfl) rfl (fun r11 sf11 sa11 hR11 => ?_)
    obtain ⟨p9, pl9, rfl, hs, hF9⟩ := hR11
    rw [hs]
    clear hs
    refine C.istore_n dX9_readInto_14 (by decide) rfl ?_
    refine C.iload_n dX9_readInto_15 rfl ?_
    refine C.if_geI (tgt := 21) dX9_readInto_16 (by decide) (by omega) (fun hc16 => absurd hc16 (by omega)) (fun hc16 => ?_)
    refine C.ic dX9_readInto_19 ?_
    refine C.retI rfl (by first | rfl | (exact (iI_bool (by first | exact Or.inl rfl | exact Or.inr rfl | assumption)).1)) dX9_readInto_20 (Nat.le_refl _) (Nat.le_refl _) ⟨_, _, ?_, rfl, rfl⟩
    exact ⟨rfl, ⟨hG0 _ _ _, rfl⟩, fun a j a1 a2 a3 _ _ => by rw [hF9.1 a a1 a2 a3]⟩
  | inl q =>
    rw [hf] at hM
    obtain ⟨g1, g2, g3, g4⟩ := condP_good (sa 32) e 12 p hpe q.1 q.2 hf
    refine MM.of2 (by decide +kernel) rfl (Nat.le_of_ble_eq_true rfl) (fun L g hL X C => ?_)
    refine C.aload_n dX9_readInto_0 rfl ?_
    refine C.ic dX9_readInto_1 ?_
    refine C.mput hL pf_X9_62 dX9_readInto_2 (by decide) rfl ?_
    refine C.aload_n dX9_readInto_5 rfl ?_
    refine C.ic dX9_readInto_6 ?_
    refine C.mput hL pf_X9_135 dX9_readInto_7 (by decide) rfl ?_
    refine C.aload_n dX9_readInto_10 rfl ?_
    refine C.mcall hL (hM) cw_X9_readCond ml_X9_138 im_X9_readCond sl_X9_readCond dX9_readInto_11 rfl rfl (by omega) (Nat.le_refl _) (Nat.le_refl _) (Nat.le_of_ble_eq_true rfl) rfl (fun r11 sf11 sa11 hR11 => ?_)
    obtain ⟨x9, pl9, b9, fp9, rfl, hs, hF9, hT9, hn9, hr9, hb9, hl9⟩ := hR11
    rw [hs]
    clear hs
    have hx9 := hT9.lt.1
    have hLA := m_laysAll (d := d - 1) (c := c) (sf := sfR (va_up (va_up sf 17 0) 26 0) q.2 b9 pl9) (by omega) hc hT9 (by omega)
    refine C.istore_n dX9_readInto_14 (by decide) rfl ?_
    refine C.iload_n dX9_readInto_15 rfl ?_
    refine C.if_geI (tgt := 21) dX9_readInto_16 (by decide) (by omega) (fun hc16 => ?_) (fun hc16 => absurd hc16 (by omega))
    refine C.aload_n dX9_readInto_21 rfl ?_
    refine C.iload_n dX9_readInto_22 rfl ?_
    refine C.iload_n dX9_readInto_23 rfl ?_
    refine C.mcall hL (hLA) cw_X9_laysAll ml_X9_161 im_X9_laysAll sl_X9_laysAll dX9_readInto_24 rfl rfl (by omega) (Nat.le_refl _) (Nat.le_refl _) (Nat.le_of_ble_eq_true rfl) rfl (fun r24 sf24 sa24 hR24 => ?_)
    obtain ⟨rfl, hs, ha⟩ := hR24
    rw [hs, ha]
    clear hs ha
    refine C.ic dX9_readInto_27 ?_
    refine C.retI rfl (by first | rfl | (exact (iI_bool (by first | exact Or.inl rfl | exact Or.inr rfl | assumption)).1)) dX9_readInto_28 (Nat.le_refl _) (Nat.le_refl _) ⟨_, _, ?_, rfl, rfl⟩
    refine ⟨rfl, ⟨(hG0 _ _ _).up (by omega), rfl⟩, fun a j a1 a2 a3 a4 a5 => ?_, va_up_self (sa11 27) _ _, fun j hj => ?_, g3, by omega⟩
    · rw [← hF9.1 a a1 a2 a3]
      by_cases ha : a = 27
      · subst ha
        rw [va_up_self]
        exact va_up_ne _ _ (fun e => a4 ⟨rfl, e⟩)
      · rw [va_up_ne _ _ ha]
        unfold wrS
        rw [if_neg (fun e => a5 ⟨e.1, e.2.1, by omega⟩)]
    · show wrS sa11 28 (c * 420) (cd q.1 0) 28 (c * 420 + j) = _
      unfold wrS
      rw [if_pos ⟨rfl, by omega, by omega⟩]
      congr 1
      omega
