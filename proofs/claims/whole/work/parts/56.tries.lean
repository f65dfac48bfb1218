def wyN (p t e : Bool) : Int := b2i p + 2 * b2i t + 4 * b2i e
theorem wy1 (p t e : Bool) : iI (wyN p t e) &&& iI 1 = iI (b2i p) := by cases p <;> cases t <;> cases e <;> rfl
theorem wy2 (p t e : Bool) : iI (wyN p t e) &&& iI 2 = iI (2 * b2i t) := by cases p <;> cases t <;> cases e <;> rfl
theorem wy4 (p t e : Bool) : iI (wyN p t e) &&& iI 4 = iI (4 * b2i e) := by cases p <;> cases t <;> cases e <;> rfl
def wyB (p : Bool) (x : Sen) : List Sen := if p then x.1.1.map (wAct x) else [x]
def wyT (t : Bool) (c : Sen) : Sen := if t then trn c else c
def wyE (e : Bool) (c : Sen) : Sen := if e then ezS c else c
def wyL (p t e : Bool) (x : Sen) : List Sen := (wyB p x).map (fun c => wyE e (wyT t c))
def wyOk (p t e : Bool) (x : Sen) : Bool := (!p || decide (2 ≤ x.1.1.length)) && (!t || canT x) && (!e || canE x)
def wyV (p t e : Bool) (x : Sen) : Int := if wyOk p t e x then (csL (wyL p t e x) : Int) else -1
/-- alike but for the acts and the passive -/
theorem wyB_mem {p : Bool} {x c : Sen} (h : c ∈ wyB p x) : c.1.2 = x.1.2 ∧ c.2 = x.2 ∧ (c = x ∨ ∃ v ∈ x.1.1, c = wAct x v) := by
  unfold wyB at h
  split at h
  · obtain ⟨v, hv, rfl⟩ := List.mem_map.mp h
    exact ⟨rfl, rfl, Or.inr ⟨v, hv, rfl⟩⟩
  · rw [List.mem_singleton.mp h]
    exact ⟨rfl, rfl, Or.inl rfl⟩
theorem wyB_canT {p : Bool} {x c : Sen} (h : c ∈ wyB p x) : canT c = canT x := by
  obtain ⟨h1, h2, _⟩ := wyB_mem h
  unfold canT
  rw [h1]
theorem canE_congr {x c : Sen} (h : c.2 = x.2) : canE c = canE x := by
  unfold canE
  rw [h]
theorem SOk.trn {x : Sen} (h : SOk x) (hc : canT x = true) : SOk (trn x) := by
  obtain ⟨⟨k1, k5, k6, k7, k8⟩, k9⟩ := h
  refine ⟨⟨k1, k5, k6, Or.inl rfl, fun _ => ?_⟩, k9⟩
  unfold canT at hc
  rw [Bool.and_eq_true] at hc
  have h2 : x.1.2.1 ≠ 3 := by simpa using hc.2
  show x.1.2.1 ≤ 2
  omega
theorem SOk.ezS {x : Sen} (h : SOk x) : SOk (ezS x) := h
theorem wyB_ok {p : Bool} {x c : Sen} (h : c ∈ wyB p x) (hx : SOk x) : SOk c := by
  obtain ⟨_, _, rfl | ⟨v, hv, rfl⟩⟩ := wyB_mem h
  · exact hx
  · exact hx.wAct hv
theorem wyB_len {p : Bool} {x : Sen} (hx : SOk x) : 1 ≤ (wyB p x).length ∧ (wyB p x).length ≤ 3 := by
  have h1 := hx.1.1.1
  have h2 := hx.1.1.2.1
  unfold wyB
  split
  · rw [List.length_map]; exact ⟨h2, h1⟩
  · simp
theorem wyL_ok {p t e : Bool} {x : Sen} (hx : SOk x) (h : wyOk p t e x = true) : ∀ c ∈ wyL p t e x, SOk c := by
  intro c hc
  unfold wyOk at h
  rw [Bool.and_eq_true, Bool.and_eq_true] at h
  obtain ⟨b, hb, rfl⟩ := List.mem_map.mp hc
  have hbo := wyB_ok hb hx
  have hbt := wyB_canT hb
  have h1 : SOk (wyT t b) := by
    unfold wyT
    split
    · rename_i ht
      have h2 := h.1.2
      rw [ht] at h2
      exact hbo.trn (by rw [hbt]; simpa using h2)
    · exact hbo
  unfold wyE
  split
  · exact h1.ezS
  · exact h1
/-- as GbR, but the row that is written too may differ -/
def GbQ (lo hi : Nat) (sa sa' : SA) : Prop := ∀ a j, a ≠ 34 → a ≠ 29 → a ≠ 30 → a ≠ 31 → ¬ ((a = 21 ∨ a = 23 ∨ a = 24 ∨ a = 25 ∨ a = 26) ∧ lo ≤ j ∧ j < hi) → ¬ (a = 22 ∧ 3 * lo ≤ j ∧ j < 3 * hi) → ¬ (a = 27 ∧ 2 * lo ≤ j ∧ j < 2 * hi) → ¬ (a = 28 ∧ 840 * lo ≤ j ∧ j < 840 * hi) → sa' a j = sa a j
theorem GbQ.rf {lo hi : Nat} {sa : SA} : GbQ lo hi sa sa := fun _ _ _ _ _ _ _ _ _ _ => rfl
theorem GbQ.tr {lo hi : Nat} {s1 s2 s3 : SA} (h1 : GbQ lo hi s1 s2) (h2 : GbQ lo hi s2 s3) : GbQ lo hi s1 s3 := fun a j x0 x1 x2 x3 x4 x5 x6 x7 => (h2 a j x0 x1 x2 x3 x4 x5 x6 x7).trans (h1 a j x0 x1 x2 x3 x4 x5 x6 x7)
theorem GbR.Q {lo hi : Nat} {sa sa' : SA} (h : GbR lo hi sa sa') : GbQ lo hi sa sa' := fun a j _ x1 x2 x3 x4 x5 x6 x7 => h a j x1 x2 x3 x4 x5 x6 x7
theorem Go.Q {lo hi : Nat} {sa sa' : SA} (h : Go sa sa') : GbQ lo hi sa sa' := fun a j x0 _ _ _ _ _ _ _ => by rw [h a x0]
theorem GbQ.tape {lo hi : Nat} {sa sa' : SA} (h : GbQ lo hi sa sa') : sa' 32 = sa 32 := by
  funext j
  exact h 32 j (by decide) (by decide) (by decide) (by decide) (by simp) (by simp) (by simp) (by simp)
theorem SenAt.Q {lo hi : Nat} {sa sa' : SA} {s : Nat} {x : Sen} (h : SenAt sa s x) (hx : x.1.1.length ≤ 3) (hg : GbQ lo hi sa sa') (hne : s < lo ∨ hi ≤ s) : SenAt sa' s x :=
  h.keep (fun a ha => hg a s (by omega) (by omega) (by omega) (by omega) (by omega) (by omega) (by omega) (by omega)) (fun k hk => hg 22 _ (by decide) (by decide) (by decide) (by decide) (by omega) (by omega) (by omega) (by omega)) (fun c hc => hg 27 _ (by decide) (by decide) (by decide) (by decide) (by omega) (by omega) (by omega) (by omega)) (fun j hj => hg 28 _ (by decide) (by decide) (by decide) (by decide) (by omega) (by omega) (by omega) (by omega))
theorem SensAt.Q {lo hi b : Nat} {sa sa' : SA} {xs : List Sen} (h : SensAt sa b xs) (hx : ∀ x ∈ xs, SOk x) (hg : GbQ lo hi sa sa') (hne : b + xs.length ≤ lo ∨ hi ≤ b) : SensAt sa' b xs := fun i x hi => by
  have hl := (List.getElem?_eq_some_iff.mp hi).1
  exact (h i x hi).Q (hx x (List.mem_of_getElem? hi)).1.1.1 hg (by omega)
/-- the fields that trying may change -/
def Gq (sf sf' : SF) : Prop := ∀ j, j ≠ 17 → j ≠ 18 → j ≠ 19 → j ≠ 22 → j ≠ 24 → j ≠ 26 → j ≠ 29 → j ≠ 30 → j ≠ 31 → j ≠ 32 → sf' j = sf j
theorem Gq.rf {sf : SF} : Gq sf sf := fun _ _ _ _ _ _ _ _ _ _ _ => rfl
theorem Gq.tr {s1 s2 s3 : SF} (h1 : Gq s1 s2) (h2 : Gq s2 s3) : Gq s1 s3 := fun j a b c d e f g h i k => (h2 j a b c d e f g h i k).trans (h1 j a b c d e f g h i k)
theorem Gf.q {sf sf' : SF} (h : Gf sf sf') : Gq sf sf' := fun j a b c d e f _ _ _ _ => h j a b c d e f
theorem Gw.q {sf sf' : SF} (h : Gw sf sf') : Gq sf sf' := fun j _ b _ _ _ _ g h' i _ => h j b g h' i
theorem one1_comm {sa : SA} {s : Nat} {v : Int} : va_up (va_up sa 21 (va_up (sa 21) s 1)) 22 (va_up (sa 22) (3 * s) v) = one1 sa s v := by
  unfold one1
  funext a
  by_cases h1 : a = 21
  · subst h1
    rw [va_up_ne _ _ (by decide), va_up_self, va_up_self]
  · rw [va_up_ne _ (va_up (sa 21) s 1) h1]
    by_cases h2 : a = 22
    · subst h2
      rw [va_up_self, va_up_self]
    · rw [va_up_ne _ _ h2, va_up_ne _ _ h1, va_up_ne _ _ h2]
theorem wyB_get {p : Bool} {x : Sen} {j : Nat} (h : j < (wyB p x).length) : (wyB p x)[j]? = some (if p then wAct x (x.1.1.getD j 0) else x) := by
  unfold wyB at h ⊢
  cases p with
  | false =>
    simp only [Bool.false_eq_true, if_false, List.length_cons, List.length_nil] at h ⊢
    obtain rfl : j = 0 := by omega
    rfl
  | true =>
    simp only [if_true, List.length_map] at h ⊢
    rw [List.getElem?_map, List.getElem?_eq_getElem h, List.getD_eq_getElem?_getD, List.getElem?_eq_getElem h]
    rfl
set_option maxRecDepth 20000 in
set_option maxHeartbeats 2000000 in
theorem m_tries {d s : Nat} {p t e : Bool} {x : Sen} {sf : SF} {sa : SA} (hd : 814 ≤ d) (hs : s < 72) (hx : SenAt sa s x) (hok : SOk x) (hez : (cdO (ezO x.2.2.1 x.2.2.2)).length ≤ 400) (hroom : wyOk p t e x = true → ∀ c ∈ wyL p t e x, (snT false c).length + 4 ≤ 9000) : MM yX9_tries cX9_tries 5 (some .int) d [.int (iI s), .int (iI (wyN p t e))] sf sa (fun r sf' sa' => r = some (.int (iI (wyV p t e x))) ∧ Gq sf sf' ∧ GbQ 72 75 sa sa' ∧ (wyOk p t e x = true → sf' 32 = (wyL p t e x).length ∧ SensAt sa' 72 (wyL p t e x))) := by
  have hk3 := hok.1.1.1
  have hk1 := hok.1.1.2.1
  have e21 : sa 21 s = x.1.1.length := hx.1.1
  obtain ⟨hn1, hn3⟩ := wyB_len (p := p) hok
  have hLl : (wyL p t e x).length = (wyB p x).length := List.length_map _
  refine MM.of2 (by decide +kernel) rfl (Nat.le_of_ble_eq_true rfl) (fun L g hL X C => ?_)
  generalize hn : (wyB p x).length = n at hn1 hn3 hLl
  -- all was in vain
  have loop0 : wyOk p t e x = false → ∀ (m j : Nat) (sfc : SF) (sac : SA), j + m = n → sfc 32 = n → Gq sf sfc → GbQ 72 75 sa sac → X 0 0 L (ov sfc sac g) 109 [some (.ref 20), some (.int (iI s)), some (.int (iI (wyN p t e))), some (.int (iI 0)), some (.int (iI ((72 + j : Nat) : Int)))] [] := by
    intro hno m
    induction m with
    | zero =>
      intro j sfc sac hj h32 hg hq
      refine C.iload dX9_tries_109 rfl ?_
      refine C.bi dX9_tries_111 (by decide) ?_
      refine C.aload_n dX9_tries_113 rfl ?_
      refine C.mget hL gf_X9_316 dX9_tries_114 rfl ?_
      refine C.topI (b := (n : Int)) h32 ?_
      refine C.iaddI dX9_tries_117 ?_
      refine C.icmp_geI (tgt := 177) dX9_tries_118 (by decide) (by omega) (by omega) (fun hc118 => ?_) (fun hc118 => absurd hc118 (by omega))
      refine C.iload_n dX9_tries_177 rfl ?_
      refine C.if_eqI (tgt := 194) dX9_tries_178 (by decide) (by decide) (fun hc178 => ?_) (fun hc178 => absurd hc178 (by decide))
      refine C.ic dX9_tries_194 ?_
      refine C.retI rfl (by first | rfl | (exact (iI_bool (by first | exact Or.inl rfl | exact Or.inr rfl | assumption)).1)) dX9_tries_195 (Nat.le_refl _) (Nat.le_refl _) ⟨_, _, ?_, rfl, rfl⟩
      have hV : wyV p t e x = -1 := by unfold wyV; rw [hno]; rfl
      rw [hV]
      exact ⟨rfl, hg, hq, fun h => absurd (h.symm.trans hno) (by decide)⟩
    | succ m ih =>
      intro j sfc sac hj h32 hg hq
      have := ih (j + 1) sfc sac (by omega) h32 hg hq
      refine C.iload dX9_tries_109 rfl ?_
      refine C.bi dX9_tries_111 (by decide) ?_
      refine C.aload_n dX9_tries_113 rfl ?_
      refine C.mget hL gf_X9_316 dX9_tries_114 rfl ?_
      refine C.topI (b := (n : Int)) h32 ?_
      refine C.iaddI dX9_tries_117 ?_
      refine C.icmp_geI (tgt := 177) dX9_tries_118 (by decide) (by omega) (by omega) (fun hc118 => absurd hc118 (by omega)) (fun hc118 => ?_)
      refine C.iload_n dX9_tries_121 rfl ?_
      refine C.ic dX9_tries_122 ?_
      refine C.iand dX9_tries_123 ?_
      rw [wy2]
      refine C.if_eqI (tgt := 146) dX9_tries_124 (by decide) (by cases t <;> decide) (fun hc124 => ?_) (fun hc124 => ?_)
      · refine C.iload_n dX9_tries_146 rfl ?_
        refine C.ic dX9_tries_147 ?_
        refine C.iand dX9_tries_148 ?_
        rw [wy4]
        refine C.if_eqI (tgt := 171) dX9_tries_149 (by decide) (by cases e <;> decide) (fun hc149 => ?_) (fun hc149 => ?_)
        · refine C.iincI dX9_tries_171 rfl (by decide) rfl ?_
          refine C.goto (tgt := 109) dX9_tries_174 (by decide) ?_
          exact this
        · refine C.iload_n dX9_tries_152 rfl ?_
          refine C.if_eqI (tgt := 169) dX9_tries_153 (by decide) (by decide) (fun hc153 => ?_) (fun hc153 => absurd hc153 (by decide))
          refine C.ic dX9_tries_169 ?_
          refine C.istore_n dX9_tries_170 (by decide) rfl ?_
          refine C.iincI dX9_tries_171 rfl (by decide) rfl ?_
          refine C.goto (tgt := 109) dX9_tries_174 (by decide) ?_
          exact this
      · refine C.iload_n dX9_tries_127 rfl ?_
        refine C.if_eqI (tgt := 144) dX9_tries_128 (by decide) (by decide) (fun hc128 => ?_) (fun hc128 => absurd hc128 (by decide))
        refine C.ic dX9_tries_144 ?_
        refine C.istore_n dX9_tries_145 (by decide) rfl ?_
        refine C.iload_n dX9_tries_146 rfl ?_
        refine C.ic dX9_tries_147 ?_
        refine C.iand dX9_tries_148 ?_
        rw [wy4]
        refine C.if_eqI (tgt := 171) dX9_tries_149 (by decide) (by cases e <;> decide) (fun hc149 => ?_) (fun hc149 => ?_)
        · refine C.iincI dX9_tries_171 rfl (by decide) rfl ?_
          refine C.goto (tgt := 109) dX9_tries_174 (by decide) ?_
          exact this
        · refine C.iload_n dX9_tries_152 rfl ?_
          refine C.if_eqI (tgt := 169) dX9_tries_153 (by decide) (by decide) (fun hc153 => ?_) (fun hc153 => absurd hc153 (by decide))
          refine C.ic dX9_tries_169 ?_
          refine C.istore_n dX9_tries_170 (by decide) rfl ?_
          refine C.iincI dX9_tries_171 rfl (by decide) rfl ?_
          refine C.goto (tgt := 109) dX9_tries_174 (by decide) ?_
          exact this
  have sT : ∀ (j : Nat) (c : Sen) (sfc : SF) (sac : SA), j < 3 → SenAt sac (72 + j) c → SOk c → (t = true → canT c = true) → (∀ sac', SenAt sac' (72 + j) (wyT t c) → GbS sac sac' (72 + j) → X 0 0 L (ov sfc sac' g) 146 [some (.ref 20), some (.int (iI s)), some (.int (iI (wyN p t e))), some (.int (iI 1)), some (.int (iI ((72 + j : Nat) : Int)))] []) → X 0 0 L (ov sfc sac g) 121 [some (.ref 20), some (.int (iI s)), some (.int (iI (wyN p t e))), some (.int (iI 1)), some (.int (iI ((72 + j : Nat) : Int)))] [] := by
    intro j c sfc sac hj hc hco hcan hk
    cases t with
    | false =>
      refine C.iload_n dX9_tries_121 rfl ?_
      refine C.ic dX9_tries_122 ?_
      refine C.iand dX9_tries_123 ?_
      rw [wy2]
      refine C.if_eqI (tgt := 146) dX9_tries_124 (by decide) (by decide) (fun hc124 => ?_) (fun hc124 => absurd hc124 (by decide))
      exact hk sac hc GbS.rf
    | true =>
      have hM := m_turnsRound (d := d - 1) (s := 72 + j) (sf := sfc) (by omega) hc hco
      rw [hcan rfl] at hM
      refine C.iload_n dX9_tries_121 rfl ?_
      refine C.ic dX9_tries_122 ?_
      refine C.iand dX9_tries_123 ?_
      rw [wy2]
      refine C.if_eqI (tgt := 146) dX9_tries_124 (by decide) (by decide) (fun hc124 => absurd hc124 (by decide)) (fun hc124 => ?_)
      refine C.iload_n dX9_tries_127 rfl ?_
      refine C.if_eqI (tgt := 144) dX9_tries_128 (by decide) (by decide) (fun hc128 => absurd hc128 (by decide)) (fun hc128 => ?_)
      refine C.aload_n dX9_tries_131 rfl ?_
      refine C.iload dX9_tries_132 rfl ?_
      refine C.mcall hL (hM) cw_X9_turnsRound ml_X9_307 im_X9_turnsRound sl_X9_turnsRound dX9_tries_134 rfl rfl (by omega) (Nat.le_refl _) (Nat.le_refl _) (Nat.le_of_ble_eq_true rfl) rfl (fun r134 sf134 sa134 hR134 => ?_)
      obtain ⟨rfl, hs2, n1, n2⟩ := hR134
      rw [hs2]
      clear hs2
      refine C.if_eqI (tgt := 144) dX9_tries_137 (by decide) (by decide) (fun hc137 => absurd hc137 (by decide)) (fun hc137 => ?_)
      refine C.ic dX9_tries_140 ?_
      refine C.goto (tgt := 145) dX9_tries_141 (by decide) ?_
      refine C.istore_n dX9_tries_145 (by decide) rfl ?_
      exact hk _ n1 n2
  have sT0 : ∀ (j : Nat) (c : Sen) (sfc : SF) (sac : SA), j < 3 → SenAt sac (72 + j) c → SOk c → t = true → canT c = false → (∀ sac', GbS sac sac' (72 + j) → X 0 0 L (ov sfc sac' g) 146 [some (.ref 20), some (.int (iI s)), some (.int (iI (wyN p t e))), some (.int (iI 0)), some (.int (iI ((72 + j : Nat) : Int)))] []) → X 0 0 L (ov sfc sac g) 121 [some (.ref 20), some (.int (iI s)), some (.int (iI (wyN p t e))), some (.int (iI 1)), some (.int (iI ((72 + j : Nat) : Int)))] [] := by
    intro j c sfc sac hj hc hco ht hcan hk
    subst ht
    have hM := m_turnsRound (d := d - 1) (s := 72 + j) (sf := sfc) (by omega) hc hco
    rw [hcan] at hM
    refine C.iload_n dX9_tries_121 rfl ?_
    refine C.ic dX9_tries_122 ?_
    refine C.iand dX9_tries_123 ?_
    rw [wy2]
    refine C.if_eqI (tgt := 146) dX9_tries_124 (by decide) (by decide) (fun hc124 => absurd hc124 (by decide)) (fun hc124 => ?_)
    refine C.iload_n dX9_tries_127 rfl ?_
    refine C.if_eqI (tgt := 144) dX9_tries_128 (by decide) (by decide) (fun hc128 => absurd hc128 (by decide)) (fun hc128 => ?_)
    refine C.aload_n dX9_tries_131 rfl ?_
    refine C.iload dX9_tries_132 rfl ?_
    refine C.mcall hL (hM) cw_X9_turnsRound ml_X9_307 im_X9_turnsRound sl_X9_turnsRound dX9_tries_134 rfl rfl (by omega) (Nat.le_refl _) (Nat.le_refl _) (Nat.le_of_ble_eq_true rfl) rfl (fun r134 sf134 sa134 hR134 => ?_)
    obtain ⟨rfl, hs2, n1, n2⟩ := hR134
    rw [hs2]
    clear hs2
    refine C.if_eqI (tgt := 144) dX9_tries_137 (by decide) (by decide) (fun hc137 => ?_) (fun hc137 => absurd hc137 (by decide))
    refine C.ic dX9_tries_144 ?_
    refine C.istore_n dX9_tries_145 (by decide) rfl ?_
    exact hk _ n2
  have sE : ∀ (j : Nat) (c : Sen) (sfc : SF) (sac : SA), j < 3 → SenAt sac (72 + j) c → c.2 = x.2 → (e = true → canE c = true) → (∀ sfc' sac', Gf sfc sfc' → SenAt sac' (72 + j) (wyE e c) → GbS sac sac' (72 + j) → X 0 0 L (ov sfc' sac' g) 171 [some (.ref 20), some (.int (iI s)), some (.int (iI (wyN p t e))), some (.int (iI 1)), some (.int (iI ((72 + j : Nat) : Int)))] []) → X 0 0 L (ov sfc sac g) 146 [some (.ref 20), some (.int (iI s)), some (.int (iI (wyN p t e))), some (.int (iI 1)), some (.int (iI ((72 + j : Nat) : Int)))] [] := by
    intro j c sfc sac hj hc hcx hcan hk
    cases e with
    | false =>
      refine C.iload_n dX9_tries_146 rfl ?_
      refine C.ic dX9_tries_147 ?_
      refine C.iand dX9_tries_148 ?_
      rw [wy4]
      refine C.if_eqI (tgt := 171) dX9_tries_149 (by decide) (by decide) (fun hc149 => ?_) (fun hc149 => absurd hc149 (by decide))
      exact hk sfc sac Gf.rf hc GbS.rf
    | true =>
      have hM := m_eases (d := d - 1) (s := 72 + j) (sf := sfc) (by omega) (by omega) hc (by rw [hcx]; exact hez)
      rw [hcan rfl] at hM
      refine C.iload_n dX9_tries_146 rfl ?_
      refine C.ic dX9_tries_147 ?_
      refine C.iand dX9_tries_148 ?_
      rw [wy4]
      refine C.if_eqI (tgt := 171) dX9_tries_149 (by decide) (by decide) (fun hc149 => absurd hc149 (by decide)) (fun hc149 => ?_)
      refine C.iload_n dX9_tries_152 rfl ?_
      refine C.if_eqI (tgt := 169) dX9_tries_153 (by decide) (by decide) (fun hc153 => absurd hc153 (by decide)) (fun hc153 => ?_)
      refine C.aload_n dX9_tries_156 rfl ?_
      refine C.iload dX9_tries_157 rfl ?_
      refine C.mcall hL (hM) cw_X9_eases ml_X9_313 im_X9_eases sl_X9_eases dX9_tries_159 rfl rfl (by omega) (Nat.le_refl _) (Nat.le_refl _) (Nat.le_of_ble_eq_true rfl) rfl (fun r159 sf159 sa159 hR159 => ?_)
      obtain ⟨rfl, hs2, n1, n2⟩ := hR159
      refine C.if_eqI (tgt := 169) dX9_tries_162 (by decide) (by decide) (fun hc162 => absurd hc162 (by decide)) (fun hc162 => ?_)
      refine C.ic dX9_tries_165 ?_
      refine C.goto (tgt := 170) dX9_tries_166 (by decide) ?_
      refine C.istore_n dX9_tries_170 (by decide) rfl ?_
      exact hk _ _ hs2 n1 n2
  have sE0 : ∀ (j : Nat) (c : Sen) (sfc : SF) (sac : SA), j < 3 → SenAt sac (72 + j) c → c.2 = x.2 → e = true → canE c = false → (∀ sfc' sac', Gf sfc sfc' → GbS sac sac' (72 + j) → X 0 0 L (ov sfc' sac' g) 171 [some (.ref 20), some (.int (iI s)), some (.int (iI (wyN p t e))), some (.int (iI 0)), some (.int (iI ((72 + j : Nat) : Int)))] []) → X 0 0 L (ov sfc sac g) 146 [some (.ref 20), some (.int (iI s)), some (.int (iI (wyN p t e))), some (.int (iI 1)), some (.int (iI ((72 + j : Nat) : Int)))] [] := by
    intro j c sfc sac hj hc hcx he hcan hk
    subst he
    have hM := m_eases (d := d - 1) (s := 72 + j) (sf := sfc) (by omega) (by omega) hc (by rw [hcx]; exact hez)
    rw [hcan] at hM
    refine C.iload_n dX9_tries_146 rfl ?_
    refine C.ic dX9_tries_147 ?_
    refine C.iand dX9_tries_148 ?_
    rw [wy4]
    refine C.if_eqI (tgt := 171) dX9_tries_149 (by decide) (by decide) (fun hc149 => absurd hc149 (by decide)) (fun hc149 => ?_)
    refine C.iload_n dX9_tries_152 rfl ?_
    refine C.if_eqI (tgt := 169) dX9_tries_153 (by decide) (by decide) (fun hc153 => absurd hc153 (by decide)) (fun hc153 => ?_)
    refine C.aload_n dX9_tries_156 rfl ?_
    refine C.iload dX9_tries_157 rfl ?_
    refine C.mcall hL (hM) cw_X9_eases ml_X9_313 im_X9_eases sl_X9_eases dX9_tries_159 rfl rfl (by omega) (Nat.le_refl _) (Nat.le_refl _) (Nat.le_of_ble_eq_true rfl) rfl (fun r159 sf159 sa159 hR159 => ?_)
    obtain ⟨rfl, hs2, n1, n2⟩ := hR159
    refine C.if_eqI (tgt := 169) dX9_tries_162 (by decide) (by decide) (fun hc162 => ?_) (fun hc162 => absurd hc162 (by decide))
    refine C.ic dX9_tries_169 ?_
    refine C.istore_n dX9_tries_170 (by decide) rfl ?_
    exact hk _ _ hs2 n2
  -- the candidates stand: turned and eased
  have st2 : (p = true → 2 ≤ x.1.1.length) → ∀ (sfc : SF) (sac : SA), sfc 32 = n → Gq sf sfc → GbQ 72 75 sa sac → SensAt sac 72 (wyB p x) → ∀ v4, X 0 0 L (ov sfc sac g) 105 [some (.ref 20), some (.int (iI s)), some (.int (iI (wyN p t e))), some (.int (iI 1)), v4] [] := by
    intro hp2 sfc sac h32 hg hq hB v4
    have hmem : ∀ j c, (wyB p x)[j]? = some c → c ∈ wyB p x ∧ j < n := fun j c h => ⟨List.mem_of_getElem? h, by have := (List.getElem?_eq_some_iff.mp h).1; omega⟩
    by_cases hyes : (t = true → canT x = true) ∧ (e = true → canE x = true)
    · have hwok : wyOk p t e x = true := by
        unfold wyOk
        rw [Bool.and_eq_true, Bool.and_eq_true]
        refine ⟨⟨?_, ?_⟩, ?_⟩
        · cases p with
          | false => rfl
          | true => rw [decide_eq_true (hp2 rfl)]; rfl
        · cases t with
          | false => rfl
          | true => rw [hyes.1 rfl]; rfl
        · cases e with
          | false => rfl
          | true => rw [hyes.2 rfl]; rfl
      have okL := wyL_ok hok hwok
      have hV : wyV p t e x = (csL (wyL p t e x) : Int) := by unfold wyV; rw [if_pos hwok]
      have loop : ∀ (m j : Nat) (sfc : SF) (sac : SA), j + m = n → sfc 32 = n → Gq sf sfc → GbQ 72 75 sa sac → (∀ i c, i < j → (wyB p x)[i]? = some c → SenAt sac (72 + i) (wyE e (wyT t c))) → (∀ i c, j ≤ i → (wyB p x)[i]? = some c → SenAt sac (72 + i) c) → X 0 0 L (ov sfc sac g) 109 [some (.ref 20), some (.int (iI s)), some (.int (iI (wyN p t e))), some (.int (iI 1)), some (.int (iI ((72 + j : Nat) : Int)))] [] := by
        intro m
        induction m with
        | zero =>
          intro j sfc sac hj h32 hg hq q1 q2
          have hS : SensAt sac 72 (wyL p t e x) := fun i c hi => by
            unfold wyL at hi
            rw [List.getElem?_map] at hi
            obtain ⟨c0, hc0, rfl⟩ := Option.map_eq_some_iff.mp hi
            exact q1 i c0 (by have := (hmem i c0 hc0).2; omega) hc0
          have hM := m_costOfAll (d := d - 1) (b := 72) (sf := sfc) (by omega) (by omega) hS (fun c hc => ⟨okL c hc, hroom hwok c hc⟩)
          rw [hLl] at hM
          refine C.iload dX9_tries_109 rfl ?_
          refine C.bi dX9_tries_111 (by decide) ?_
          refine C.aload_n dX9_tries_113 rfl ?_
          refine C.mget hL gf_X9_316 dX9_tries_114 rfl ?_
          refine C.topI (b := (n : Int)) h32 ?_
          refine C.iaddI dX9_tries_117 ?_
          refine C.icmp_geI (tgt := 177) dX9_tries_118 (by decide) (by omega) (by omega) (fun hc118 => ?_) (fun hc118 => absurd hc118 (by omega))
          refine C.iload_n dX9_tries_177 rfl ?_
          refine C.if_eqI (tgt := 194) dX9_tries_178 (by decide) (by decide) (fun hc178 => absurd hc178 (by decide)) (fun hc178 => ?_)
          refine C.aload_n dX9_tries_181 rfl ?_
          refine C.bi dX9_tries_182 (by decide) ?_
          refine C.aload_n dX9_tries_184 rfl ?_
          refine C.mget hL gf_X9_316 dX9_tries_185 rfl ?_
          refine C.topI (b := (n : Int)) h32 ?_
          refine C.mcall hL (hM) cw_X9_costOfAll ml_X9_289 im_X9_costOfAll sl_X9_costOfAll dX9_tries_188 rfl rfl (by omega) (Nat.le_refl _) (Nat.le_refl _) (Nat.le_of_ble_eq_true rfl) rfl (fun r188 sf188 sa188 hR188 => ?_)
          obtain ⟨rfl, hg1, hg2⟩ := hR188
          refine C.goto (tgt := 195) dX9_tries_191 (by decide) ?_
          refine C.retI rfl (by first | rfl | (exact (iI_bool (by first | exact Or.inl rfl | exact Or.inr rfl | assumption)).1)) dX9_tries_195 (Nat.le_refl _) (Nat.le_refl _) ⟨_, _, ?_, rfl, rfl⟩
          rw [hV]
          refine ⟨rfl, hg.tr hg1.q, hq.tr hg2.Q, fun _ => ⟨?_, hS.Go hg2⟩⟩
          rw [hg1 32 (by decide) (by decide) (by decide) (by decide), hLl]
          exact h32
        | succ m ih =>
          intro j sfc sac hj h32 hg hq q1 q2
          have hcj : (wyB p x)[j]? = some ((wyB p x)[j]) := List.getElem?_eq_getElem (by omega)
          generalize (wyB p x)[j] = c at hcj
          have hcm := (hmem j c hcj).1
          have hct := wyB_canT hcm
          have hcok := wyB_ok hcm hok
          have hc2 : (wyT t c).2 = x.2 := by
            unfold wyT
            split
            · exact (wyB_mem hcm).2.1
            · exact (wyB_mem hcm).2.1
          have go := sT j c sfc sac (by omega) (q2 j c (Nat.le_refl _) hcj) hcok (fun ht => by rw [hct]; exact hyes.1 ht) (fun sa1 n1 n2 => sE j (wyT t c) sfc sa1 (by omega) n1 hc2 (fun he => by rw [canE_congr hc2]; exact hyes.2 he) (fun sf2 sa2 g1 n3 n4 => by
            have hG := n2.tr n4
            have := ih (j + 1) sf2 sa2 (by omega) (by rw [g1 32 (by decide) (by decide) (by decide) (by decide) (by decide) (by decide)]; exact h32) (hg.tr g1.q) (hq.tr (hG.R (by omega) (by omega)).Q) (fun i c' hi hci => by
              by_cases hij : i = j
              · subst hij
                obtain rfl : c = c' := Option.some.inj (hcj.symm.trans hci)
                exact n3
              · refine (q1 i c' (by omega) hci).S ?_ hG (by omega)
                have := (okL _ (List.mem_map.mpr ⟨c', (hmem i c' hci).1, rfl⟩)).1.1.1
                exact this) (fun i c' hi hci => (q2 i c' (by omega) hci).S (wyB_ok (hmem i c' hci).1 hok).1.1.1 hG (by omega))
            refine C.iincI dX9_tries_171 rfl (by decide) rfl ?_
            refine C.goto (tgt := 109) dX9_tries_174 (by decide) ?_
            exact this
            ))
          refine C.iload dX9_tries_109 rfl ?_
          refine C.bi dX9_tries_111 (by decide) ?_
          refine C.aload_n dX9_tries_113 rfl ?_
          refine C.mget hL gf_X9_316 dX9_tries_114 rfl ?_
          refine C.topI (b := (n : Int)) h32 ?_
          refine C.iaddI dX9_tries_117 ?_
          refine C.icmp_geI (tgt := 177) dX9_tries_118 (by decide) (by omega) (by omega) (fun hc118 => absurd hc118 (by omega)) (fun hc118 => ?_)
          exact go
      refine C.bi dX9_tries_105 (by decide) ?_
      refine C.istore dX9_tries_107 (by decide) rfl ?_
      exact loop n 0 sfc sac (by omega) h32 hg hq (fun i c h => absurd h (by omega)) (fun i c _ h => hB i c h)
    · have hno : wyOk p t e x = false := by
        rw [← Bool.not_eq_true]
        intro h
        apply hyes
        unfold wyOk at h
        rw [Bool.and_eq_true, Bool.and_eq_true] at h
        refine ⟨fun ht => ?_, fun he => ?_⟩
        · have := h.1.2
          rw [ht] at this
          simpa using this
        · have := h.2
          rw [he] at this
          simpa using this
      have hcj : (wyB p x)[0]? = some ((wyB p x)[0]) := List.getElem?_eq_getElem (by omega)
      generalize (wyB p x)[0] = c at hcj
      have hcm := (hmem 0 c hcj).1
      have hct := wyB_canT hcm
      have hcok := wyB_ok hcm hok
      have hc2 : (wyT t c).2 = x.2 := by
        unfold wyT
        split
        · exact (wyB_mem hcm).2.1
        · exact (wyB_mem hcm).2.1
      have go : X 0 0 L (ov sfc sac g) 121 [some (.ref 20), some (.int (iI s)), some (.int (iI (wyN p t e))), some (.int (iI 1)), some (.int (iI ((72 + 0 : Nat) : Int)))] [] := by
        by_cases htc : t = true ∧ canT x = false
        · refine sT0 0 c sfc sac (by omega) (hB 0 c hcj) hcok htc.1 (by rw [hct]; exact htc.2) (fun sa1 n2 => ?_)
          have := loop0 hno (n - 1) 1 sfc sa1 (by omega) h32 hg (hq.tr (n2.R (by omega) (by omega)).Q)
          refine C.iload_n dX9_tries_146 rfl ?_
          refine C.ic dX9_tries_147 ?_
          refine C.iand dX9_tries_148 ?_
          rw [wy4]
          refine C.if_eqI (tgt := 171) dX9_tries_149 (by decide) (by cases e <;> decide) (fun hc149 => ?_) (fun hc149 => ?_)
          · refine C.iincI dX9_tries_171 rfl (by decide) rfl ?_
            refine C.goto (tgt := 109) dX9_tries_174 (by decide) ?_
            exact this
          · refine C.iload_n dX9_tries_152 rfl ?_
            refine C.if_eqI (tgt := 169) dX9_tries_153 (by decide) (by decide) (fun hc153 => ?_) (fun hc153 => absurd hc153 (by decide))
            refine C.ic dX9_tries_169 ?_
            refine C.istore_n dX9_tries_170 (by decide) rfl ?_
            refine C.iincI dX9_tries_171 rfl (by decide) rfl ?_
            refine C.goto (tgt := 109) dX9_tries_174 (by decide) ?_
            exact this
        · have ht1 : t = true → canT x = true := fun h => by
            cases hq : canT x with
            | true => rfl
            | false => exact absurd ⟨h, hq⟩ htc
          have hec : e = true ∧ canE x = false := by
            cases hq : canE x with
            | true => exact absurd ⟨ht1, fun _ => hq⟩ hyes
            | false =>
              refine ⟨?_, rfl⟩
              cases he : e with
              | true => rfl
              | false => exact absurd ⟨ht1, fun h => absurd (he.symm.trans h) (by decide)⟩ hyes
          refine sT 0 c sfc sac (by omega) (hB 0 c hcj) hcok (fun ht => by rw [hct]; exact ht1 ht) (fun sa1 n1 n2 => sE0 0 (wyT t c) sfc sa1 (by omega) n1 hc2 hec.1 (by rw [canE_congr hc2]; exact hec.2) (fun sf2 sa2 g1 n4 => ?_))
          have := loop0 hno (n - 1) 1 sf2 sa2 (by omega) (by rw [g1 32 (by decide) (by decide) (by decide) (by decide) (by decide) (by decide)]; exact h32) (hg.tr g1.q) (hq.tr ((n2.tr n4).R (by omega) (by omega)).Q)
          refine C.iincI dX9_tries_171 rfl (by decide) rfl ?_
          refine C.goto (tgt := 109) dX9_tries_174 (by decide) ?_
          exact this
      refine C.bi dX9_tries_105 (by decide) ?_
      refine C.istore dX9_tries_107 (by decide) rfl ?_
      skip
      refine C.iload dX9_tries_109 rfl ?_
      refine C.bi dX9_tries_111 (by decide) ?_
      refine C.aload_n dX9_tries_113 rfl ?_
      refine C.mget hL gf_X9_316 dX9_tries_114 rfl ?_
      refine C.topI (b := (n : Int)) h32 ?_
      refine C.iaddI dX9_tries_117 ?_
      refine C.icmp_geI (tgt := 177) dX9_tries_118 (by decide) (by omega) (by omega) (fun hc118 => absurd hc118 (by omega)) (fun hc118 => ?_)
      exact go
  -- the copies
  have cpl : (p = true → 2 ≤ x.1.1.length) → ∀ (m k : Nat) (sac : SA), k + m = n → GbR 72 75 sa sac → (∀ i c, i < k → (wyB p x)[i]? = some c → SenAt sac (72 + i) c) → ∀ v4, X 0 0 L (ov (va_up sf 32 n) sac g) 40 [some (.ref 20), some (.int (iI s)), some (.int (iI (wyN p t e))), some (.int (iI k)), v4] [] := by
    intro hp2 m
    induction m with
    | zero =>
      intro k sac hk hg q1 v4
      have := st2 hp2 (va_up sf 32 n) sac rfl (fun j _ _ _ _ _ _ _ _ _ h => va_up_ne _ _ h) hg.Q (fun i c hi => q1 i c (by have := (List.getElem?_eq_some_iff.mp hi).1; omega) hi)
      refine C.iload_n dX9_tries_40 rfl ?_
      refine C.aload_n dX9_tries_41 rfl ?_
      refine C.mget hL gf_X9_316 dX9_tries_42 rfl ?_
      refine C.topI (b := (n : Int)) rfl ?_
      refine C.icmp_geI (tgt := 103) dX9_tries_45 (by decide) (by omega) (by omega) (fun hc45 => ?_) (fun hc45 => absurd hc45 (by omega))
      refine C.ic dX9_tries_103 ?_
      refine C.istore_n dX9_tries_104 (by decide) rfl ?_
      exact this _
    | succ m ih =>
      intro k sac hk hg q1 v4
      have hxc : SenAt sac s x := hx.R hk3 hg (by omega)
      have hM := m_copiesS (d := d - 1) (sf := va_up sf 32 n) (fr := s) (to := 72 + k) (by omega) (by omega) hxc hok
      have hget := wyB_get (p := p) (x := x) (j := k) (by omega)
      cases p with
      | false =>
        refine C.iload_n dX9_tries_40 rfl ?_
        refine C.aload_n dX9_tries_41 rfl ?_
        refine C.mget hL gf_X9_316 dX9_tries_42 rfl ?_
        refine C.topI (b := (n : Int)) rfl ?_
        refine C.icmp_geI (tgt := 103) dX9_tries_45 (by decide) (by omega) (by omega) (fun hc45 => absurd hc45 (by omega)) (fun hc45 => ?_)
        refine C.aload_n dX9_tries_48 rfl ?_
        refine C.iload_n dX9_tries_49 rfl ?_
        refine C.bi dX9_tries_50 (by decide) ?_
        refine C.iload_n dX9_tries_52 rfl ?_
        refine C.iaddI dX9_tries_53 ?_
        refine C.topI (b := ((72 + k : Nat) : Int)) (by omega) ?_
        refine C.mcall hL (hM) cw_X9_copies ml_X9_213 im_X9_copies sl_X9_copies dX9_tries_54 rfl rfl (by omega) (Nat.le_refl _) (Nat.le_refl _) (Nat.le_of_ble_eq_true rfl) rfl (fun r54 sf54 sa54 hR54 => ?_)
        obtain ⟨rfl, hs2, n1, n2⟩ := hR54
        rw [hs2]
        clear hs2
        refine C.iload_n dX9_tries_57 rfl ?_
        refine C.ic dX9_tries_58 ?_
        refine C.iand dX9_tries_59 ?_
        rw [wy1]
        refine C.if_neI (tgt := 66) dX9_tries_60 (by decide) (by decide) (fun hc60 => absurd hc60 (by decide)) (fun hc60 => ?_)
        refine C.goto (tgt := 97) dX9_tries_63 (by decide) ?_
        refine C.iincI dX9_tries_97 rfl (by decide) rfl ?_
        refine C.goto (tgt := 40) dX9_tries_100 (by decide) ?_
        refine ih (k + 1) _ (by omega) (hg.tr (n2.R (by omega) (by omega))) (fun i c hi hci => ?_) _
        by_cases hik : i = k
        · subst hik
          obtain rfl := Option.some.inj (hget.symm.trans hci)
          exact n1
        · exact (q1 i c (by omega) hci).S (wyB_ok (List.mem_of_getElem? hci) hok).1.1.1 n2 (by omega)
      | true =>
        have hnl : n = x.1.1.length := by rw [← hn]; unfold wyB; rw [if_pos rfl, List.length_map]
        refine C.iload_n dX9_tries_40 rfl ?_
        refine C.aload_n dX9_tries_41 rfl ?_
        refine C.mget hL gf_X9_316 dX9_tries_42 rfl ?_
        refine C.topI (b := (n : Int)) rfl ?_
        refine C.icmp_geI (tgt := 103) dX9_tries_45 (by decide) (by omega) (by omega) (fun hc45 => absurd hc45 (by omega)) (fun hc45 => ?_)
        refine C.aload_n dX9_tries_48 rfl ?_
        refine C.iload_n dX9_tries_49 rfl ?_
        refine C.bi dX9_tries_50 (by decide) ?_
        refine C.iload_n dX9_tries_52 rfl ?_
        refine C.iaddI dX9_tries_53 ?_
        refine C.topI (b := ((72 + k : Nat) : Int)) (by omega) ?_
        refine C.mcall hL (hM) cw_X9_copies ml_X9_213 im_X9_copies sl_X9_copies dX9_tries_54 rfl rfl (by omega) (Nat.le_refl _) (Nat.le_refl _) (Nat.le_of_ble_eq_true rfl) rfl (fun r54 sf54 sa54 hR54 => ?_)
        obtain ⟨rfl, hs2, n1, n2⟩ := hR54
        rw [hs2]
        clear hs2
        have eact : sa54 22 (3 * s + k) = x.1.1.getD k 0 := by rw [n2 22 _ (by decide) (by decide) (by decide) (by omega) (by omega) (by omega) (by omega)]; exact hxc.1.2.1 k (by omega)
        refine C.iload_n dX9_tries_57 rfl ?_
        refine C.ic dX9_tries_58 ?_
        refine C.iand dX9_tries_59 ?_
        rw [wy1]
        refine C.if_neI (tgt := 66) dX9_tries_60 (by decide) (by decide) (fun hc60 => ?_) (fun hc60 => absurd hc60 (by decide))
        refine C.aload_n dX9_tries_66 rfl ?_
        refine C.mget hL gf_X9_9 dX9_tries_67 rfl ?_
        refine C.bi dX9_tries_70 (by decide) ?_
        refine C.iload_n dX9_tries_72 rfl ?_
        refine C.iaddI dX9_tries_73 ?_
        refine C.ic dX9_tries_74 ?_
        refine C.mastk hL (k := 72 + k) (ovs_21 _ _ _) dX9_tries_75 (by decide) rfl (by decide) (by omega) (by omega) ?_
        refine C.aload_n dX9_tries_76 rfl ?_
        refine C.mget hL gf_X9_13 dX9_tries_77 rfl ?_
        refine C.ic dX9_tries_80 ?_
        refine C.bi dX9_tries_81 (by decide) ?_
        refine C.iload_n dX9_tries_83 rfl ?_
        refine C.iaddI dX9_tries_84 ?_
        refine C.imulI dX9_tries_85 ?_
        refine C.topI (b := ((3 * (72 + k) : Nat) : Int)) (by omega) ?_
        refine C.aload_n dX9_tries_86 rfl ?_
        refine C.mget hL gf_X9_13 dX9_tries_87 rfl ?_
        refine C.ic dX9_tries_90 ?_
        refine C.iload_n dX9_tries_91 rfl ?_
        refine C.imulI dX9_tries_92 ?_
        refine C.iload_n dX9_tries_93 rfl ?_
        refine C.iaddI dX9_tries_94 ?_
        refine C.maldk hL (k := 3 * s + k) dX9_tries_95 (by decide) rfl (by decide) (by omega) (by omega) ?_
        refine C.topI (b := x.1.1.getD k 0) eact ?_
        refine C.mastk hL (ovs_22 _ _ _) dX9_tries_96 (by decide) rfl (by decide) rfl (by omega) ?_
        refine C.iincI dX9_tries_97 rfl (by decide) rfl ?_
        refine C.goto (tgt := 40) dX9_tries_100 (by decide) ?_
        have hS := n1.one (v := x.1.1.getD k 0)
        have hG : GbS sac (one1 sa54 (72 + k) (x.1.1.getD k 0)) (72 + k) := n2.tr GbS.one
        rw [← one1_comm] at hS hG
        refine ih (k + 1) _ (by omega) (hg.tr (hG.R (by omega) (by omega))) (fun i c hi hci => ?_) _
        by_cases hik : i = k
        · subst hik
          obtain rfl := Option.some.inj (hget.symm.trans hci)
          exact hS
        · exact (q1 i c (by omega) hci).S (wyB_ok (List.mem_of_getElem? hci) hok).1.1.1 hG (by omega)
  cases p with
  | false =>
    have hn0 : n = 1 := by rw [← hn]; rfl
    have := cpl (fun h => absurd h (by decide)) n 0 sa (by omega) GbR.rf (fun i c h => absurd h (by omega))
    rw [hn0] at this
    refine C.aload_n dX9_tries_0 rfl ?_
    refine C.iload_n dX9_tries_1 rfl ?_
    refine C.ic dX9_tries_2 ?_
    refine C.iand dX9_tries_3 ?_
    rw [wy1]
    refine C.if_neI (tgt := 11) dX9_tries_4 (by decide) (by decide) (fun hc4 => absurd hc4 (by decide)) (fun hc4 => ?_)
    refine C.ic dX9_tries_7 ?_
    refine C.goto (tgt := 17) dX9_tries_8 (by decide) ?_
    refine C.mput hL pf_X9_316 dX9_tries_17 (by decide) rfl ?_
    refine C.iload_n dX9_tries_20 rfl ?_
    refine C.ic dX9_tries_21 ?_
    refine C.iand dX9_tries_22 ?_
    rw [wy1]
    refine C.if_eqI (tgt := 38) dX9_tries_23 (by decide) (by decide) (fun hc23 => ?_) (fun hc23 => absurd hc23 (by decide))
    refine C.ic dX9_tries_38 ?_
    refine C.istore_n dX9_tries_39 (by decide) rfl ?_
    exact this _
  | true =>
    have hnl : n = x.1.1.length := by rw [← hn]; unfold wyB; rw [if_pos rfl, List.length_map]
    by_cases h2 : 2 ≤ x.1.1.length
    · have := cpl (fun _ => h2) n 0 sa (by omega) GbR.rf (fun i c h => absurd h (by omega))
      refine C.aload_n dX9_tries_0 rfl ?_
      refine C.iload_n dX9_tries_1 rfl ?_
      refine C.ic dX9_tries_2 ?_
      refine C.iand dX9_tries_3 ?_
      rw [wy1]
      refine C.if_neI (tgt := 11) dX9_tries_4 (by decide) (by decide) (fun hc4 => ?_) (fun hc4 => absurd hc4 (by decide))
      refine C.aload_n dX9_tries_11 rfl ?_
      refine C.mget hL gf_X9_9 dX9_tries_12 rfl ?_
      refine C.iload_n dX9_tries_15 rfl ?_
      refine C.maldk hL dX9_tries_16 (by decide) rfl (by decide) rfl (by omega) ?_
      refine C.topI (b := (n : Int)) (by rw [hnl]; exact e21) ?_
      refine C.mput hL pf_X9_316 dX9_tries_17 (by decide) rfl ?_
      refine C.iload_n dX9_tries_20 rfl ?_
      refine C.ic dX9_tries_21 ?_
      refine C.iand dX9_tries_22 ?_
      rw [wy1]
      refine C.if_eqI (tgt := 38) dX9_tries_23 (by decide) (by decide) (fun hc23 => absurd hc23 (by decide)) (fun hc23 => ?_)
      refine C.aload_n dX9_tries_26 rfl ?_
      refine C.mget hL gf_X9_9 dX9_tries_27 rfl ?_
      refine C.iload_n dX9_tries_30 rfl ?_
      refine C.maldk hL dX9_tries_31 (by decide) rfl (by decide) rfl (by omega) ?_
      refine C.topI (b := (n : Int)) (by rw [hnl]; exact e21) ?_
      refine C.ic dX9_tries_32 ?_
      refine C.icmp_geI (tgt := 38) dX9_tries_33 (by decide) (by omega) (by omega) (fun hc33 => ?_) (fun hc33 => absurd hc33 (by omega))
      refine C.ic dX9_tries_38 ?_
      refine C.istore_n dX9_tries_39 (by decide) rfl ?_
      exact this _
    · have hno : wyOk true t e x = false := by unfold wyOk; rw [decide_eq_false h2]; rfl
      refine C.aload_n dX9_tries_0 rfl ?_
      refine C.iload_n dX9_tries_1 rfl ?_
      refine C.ic dX9_tries_2 ?_
      refine C.iand dX9_tries_3 ?_
      rw [wy1]
      refine C.if_neI (tgt := 11) dX9_tries_4 (by decide) (by decide) (fun hc4 => ?_) (fun hc4 => absurd hc4 (by decide))
      refine C.aload_n dX9_tries_11 rfl ?_
      refine C.mget hL gf_X9_9 dX9_tries_12 rfl ?_
      refine C.iload_n dX9_tries_15 rfl ?_
      refine C.maldk hL dX9_tries_16 (by decide) rfl (by decide) rfl (by omega) ?_
      refine C.topI (b := (n : Int)) (by rw [hnl]; exact e21) ?_
      refine C.mput hL pf_X9_316 dX9_tries_17 (by decide) rfl ?_
      refine C.iload_n dX9_tries_20 rfl ?_
      refine C.ic dX9_tries_21 ?_
      refine C.iand dX9_tries_22 ?_
      rw [wy1]
      refine C.if_eqI (tgt := 38) dX9_tries_23 (by decide) (by decide) (fun hc23 => absurd hc23 (by decide)) (fun hc23 => ?_)
      refine C.aload_n dX9_tries_26 rfl ?_
      refine C.mget hL gf_X9_9 dX9_tries_27 rfl ?_
      refine C.iload_n dX9_tries_30 rfl ?_
      refine C.maldk hL dX9_tries_31 (by decide) rfl (by decide) rfl (by omega) ?_
      refine C.topI (b := (n : Int)) (by rw [hnl]; exact e21) ?_
      refine C.ic dX9_tries_32 ?_
      refine C.icmp_geI (tgt := 38) dX9_tries_33 (by decide) (by omega) (by omega) (fun hc33 => absurd hc33 (by omega)) (fun hc33 => ?_)
      refine C.ic dX9_tries_36 ?_
      refine C.retI rfl (by first | rfl | (exact (iI_bool (by first | exact Or.inl rfl | exact Or.inr rfl | assumption)).1)) dX9_tries_37 (Nat.le_refl _) (Nat.le_refl _) ⟨_, _, ?_, rfl, rfl⟩
      have hV : wyV true t e x = -1 := by unfold wyV; rw [hno]; rfl
      rw [hV]
      exact ⟨rfl, (fun j _ _ _ _ _ _ _ _ _ h => va_up_ne _ _ h), GbQ.rf, fun h => absurd (h.symm.trans hno) (by decide)⟩
