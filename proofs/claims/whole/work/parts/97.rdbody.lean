/-! the body of a sentence, read by the class -/
/-- the acts told so far -/
def AcS (c : SF) (a : SA) (xs : List Int) : Prop := c 35 = xs.length ∧ xs.length ≤ 3 ∧ (∀ j v, xs[j]? = some v → a 10 j = v) ∧ (∀ v ∈ xs, 0 ≤ v ∧ v ≤ 9) ∧ xs.Nodup
theorem upI {c : SF} {p q : Nat} {x y : Int} (h : p ≠ q) : va_up (va_up c p x) q y = va_up (va_up c q y) p x := by
  funext j
  by_cases h1 : j = q
  · subst h1
    rw [va_up_self, va_up_ne _ _ (Ne.symm h), va_up_self]
  · rw [va_up_ne _ _ h1]
    by_cases h2 : j = p
    · subst h2; rw [va_up_self, va_up_self]
    · rw [va_up_ne _ _ h2, va_up_ne _ _ h2, va_up_ne _ _ h1]
section BODY
variable {tb : Nat → Int} {e i p d : Nat} {ts : List (Int × Int × Int)} {c : SF} {a : SA} {L : List Nat} {g : Nat → AC}
theorem b_takeT {w : Int} (hw : i3 w) (hL : ∀ k, k < 36 → k ∈ L) (h : TsAt c a ts e i) (hb : tkIs ts i w = true) : KA yX6_take cX6_take 3 (some .boolean) d [.ref 6, .int (iI w)] L g c a (fun r c' a' => r = some (.int (iI 1)) ∧ c' = va_up c 65 ((i + 1 : Nat) : Int) ∧ a' = a) := by
  have M := k_take (d := d) (g := g) hw hL h
  rw [hb, if_pos rfl] at M
  exact M
theorem b_takeF {w : Int} (hw : i3 w) (hL : ∀ k, k < 36 → k ∈ L) (h : TsAt c a ts e i) (hb : tkIs ts i w = false) : KA yX6_take cX6_take 3 (some .boolean) d [.ref 6, .int (iI w)] L g c a (fun r c' a' => r = some (.int (iI 0)) ∧ c' = c ∧ a' = a) := by
  have M := k_take (d := d) (g := g) hw hL h
  rw [hb, if_neg (by decide)] at M
  exact M
theorem tk_lt {w : Int} (hb : tkIs ts i w = true) : i + 1 ≤ ts.length := by
  unfold tkIs at hb
  cases hti : ts[i]? with
  | none => rw [hti] at hb; cases hb
  | some t => exact (List.getElem?_eq_some_iff.mp hti).1
theorem b_readWho (hd : 1 ≤ d) (hL : ∀ k, k < 36 → k ∈ L) (hT : TsAt c a ts e i) (hk : Tk tb e ts i p) : KA yX2_readWho cX2_readWho 1 (some .boolean) d [.ref 3] L g c a (fun r c' a' => a' = a ∧ (0 ≤ whoV tb e p → r = some (.int (iI 1)) ∧ c' = va_up (va_up c 65 ((i + 1 : Nat) : Int)) 32 (whoV tb e p) ∧ Tk tb e ts (i + 1) (whoQ tb e p) ∧ i + 1 ≤ ts.length) ∧ (whoV tb e p < 0 → r = some (.int (iI 0)) ∧ c' = va_up c 32 2)) := by
  obtain ⟨y1, y2⟩ := tk_is (w := 0) (by omega) hk
  obtain ⟨w1, w2⟩ := tk_is (w := 1) (by omega) hk
  obtain ⟨t1, t2⟩ := tk_is (w := 2) (by omega) hk
  change tkIs ts i 0 = psP tb e p zYou at y1
  change psP tb e p zYou = true → _ at y2
  change tkIs ts i 1 = psP tb e p zWe at w1
  change psP tb e p zWe = true → _ at w2
  change tkIs ts i 2 = psP tb e p zThey at t1
  change psP tb e p zThey = true → _ at t2
  refine KA.of (by decide +kernel) rfl (Nat.le_of_ble_eq_true rfl) (fun X C => ?_)
  cases cy : psP tb e p zYou with
  | true =>
    have hv : whoV tb e p = 0 := by unfold whoV; rw [cy]; rfl
    have hq : whoQ tb e p = wend tb e (bl tb e p) := by unfold whoQ; rw [hv]; rfl
    have M := b_takeT (d := d - 1) (g := g) (w := 0) (by unfold i3; decide) hL hT (y1.trans cy)
    refine C.aload_n dX2_readWho_0 rfl ?_
    refine C.getf gf_X2_21 dX2_readWho_1 (hL _ (by decide)) rfl rfl ?_
    refine C.ic dX2_readWho_4 ?_
    refine C.kcall (M) cw_X6_take ml_X2_54 im_X6_take sl_X6_take dX2_readWho_5 (hL _ (by decide)) rfl rfl rfl (by omega) (Nat.le_refl _) (Nat.le_refl _) (Nat.le_of_ble_eq_true rfl) rfl (fun r5 c5 a5 hR5 => ?_)
    obtain ⟨rfl, hs, ha⟩ := hR5
    rw [hs, ha]
    clear hs ha
    refine C.if_eqI (tgt := 19) dX2_readWho_8 (by decide) (by decide) (fun hc8 => absurd hc8 (by decide)) (fun hc8 => ?_)
    refine C.aload_n dX2_readWho_11 rfl ?_
    refine C.ic dX2_readWho_12 ?_
    refine C.kput_32 hL pf_X2_31 dX2_readWho_13 ?_
    refine C.goto (tgt := 52) dX2_readWho_16 (by decide) ?_
    refine C.ic dX2_readWho_52 ?_
    refine C.retI rfl (by first | rfl | (exact (iI_bool (by first | exact Or.inl rfl | exact Or.inr rfl | assumption)).1)) dX2_readWho_53 (Nat.le_refl _) (Nat.le_refl _) ⟨_, _, ?_, rfl, rfl⟩
    refine ⟨rfl, fun _ => ⟨rfl, by rw [hv], by rw [hq]; exact y2 cy, tk_lt (y1.trans cy)⟩, fun h => absurd h (by omega)⟩
  | false =>
    have M := b_takeF (d := d - 1) (g := g) (w := 0) (by unfold i3; decide) hL hT (y1.trans cy)
    cases cw : psP tb e p zWe with
    | true =>
      have hv : whoV tb e p = 1 := by unfold whoV; rw [cy, cw]; rfl
      have hq : whoQ tb e p = wend tb e (bl tb e p) := by unfold whoQ; rw [hv]; rfl
      have M2 := b_takeT (d := d - 1) (g := g) (w := 1) (by unfold i3; decide) hL hT (w1.trans cw)
      refine C.aload_n dX2_readWho_0 rfl ?_
      refine C.getf gf_X2_21 dX2_readWho_1 (hL _ (by decide)) rfl rfl ?_
      refine C.ic dX2_readWho_4 ?_
      refine C.kcall (M) cw_X6_take ml_X2_54 im_X6_take sl_X6_take dX2_readWho_5 (hL _ (by decide)) rfl rfl rfl (by omega) (Nat.le_refl _) (Nat.le_refl _) (Nat.le_of_ble_eq_true rfl) rfl (fun r5 c5 a5 hR5 => ?_)
      obtain ⟨rfl, hs, ha⟩ := hR5
      rw [hs, ha]
      clear hs ha
      refine C.if_eqI (tgt := 19) dX2_readWho_8 (by decide) (by decide) (fun hc8 => ?_) (fun hc8 => absurd hc8 (by decide))
      refine C.aload_n dX2_readWho_19 rfl ?_
      refine C.getf gf_X2_21 dX2_readWho_20 (hL _ (by decide)) rfl rfl ?_
      refine C.ic dX2_readWho_23 ?_
      refine C.kcall (M2) cw_X6_take ml_X2_54 im_X6_take sl_X6_take dX2_readWho_24 (hL _ (by decide)) rfl rfl rfl (by omega) (Nat.le_refl _) (Nat.le_refl _) (Nat.le_of_ble_eq_true rfl) rfl (fun r24 c24 a24 hR24 => ?_)
      obtain ⟨rfl, hs, ha⟩ := hR24
      rw [hs, ha]
      clear hs ha
      refine C.if_eqI (tgt := 38) dX2_readWho_27 (by decide) (by decide) (fun hc27 => absurd hc27 (by decide)) (fun hc27 => ?_)
      refine C.aload_n dX2_readWho_30 rfl ?_
      refine C.ic dX2_readWho_31 ?_
      refine C.kput_32 hL pf_X2_31 dX2_readWho_32 ?_
      refine C.goto (tgt := 52) dX2_readWho_35 (by decide) ?_
      refine C.ic dX2_readWho_52 ?_
      refine C.retI rfl (by first | rfl | (exact (iI_bool (by first | exact Or.inl rfl | exact Or.inr rfl | assumption)).1)) dX2_readWho_53 (Nat.le_refl _) (Nat.le_refl _) ⟨_, _, ?_, rfl, rfl⟩
      refine ⟨rfl, fun _ => ⟨rfl, by rw [hv], by rw [hq]; exact w2 cw, tk_lt (w1.trans cw)⟩, fun h => absurd h (by omega)⟩
    | false =>
      have M2 := b_takeF (d := d - 1) (g := g) (w := 1) (by unfold i3; decide) hL hT (w1.trans cw)
      have hT2 : TsAt (va_up c 32 2) a ts e i := hT
      cases ct : psP tb e p zThey with
      | true =>
        have hv : whoV tb e p = 2 := by unfold whoV; rw [cy, cw, ct]; rfl
        have hq : whoQ tb e p = wend tb e (bl tb e p) := by unfold whoQ; rw [hv]; rfl
        have M3 := b_takeT (d := d - 1) (g := g) (w := 2) (by unfold i3; decide) hL hT2 (t1.trans ct)
        refine C.aload_n dX2_readWho_0 rfl ?_
        refine C.getf gf_X2_21 dX2_readWho_1 (hL _ (by decide)) rfl rfl ?_
        refine C.ic dX2_readWho_4 ?_
        refine C.kcall (M) cw_X6_take ml_X2_54 im_X6_take sl_X6_take dX2_readWho_5 (hL _ (by decide)) rfl rfl rfl (by omega) (Nat.le_refl _) (Nat.le_refl _) (Nat.le_of_ble_eq_true rfl) rfl (fun r5 c5 a5 hR5 => ?_)
        obtain ⟨rfl, hs, ha⟩ := hR5
        rw [hs, ha]
        clear hs ha
        refine C.if_eqI (tgt := 19) dX2_readWho_8 (by decide) (by decide) (fun hc8 => ?_) (fun hc8 => absurd hc8 (by decide))
        refine C.aload_n dX2_readWho_19 rfl ?_
        refine C.getf gf_X2_21 dX2_readWho_20 (hL _ (by decide)) rfl rfl ?_
        refine C.ic dX2_readWho_23 ?_
        refine C.kcall (M2) cw_X6_take ml_X2_54 im_X6_take sl_X6_take dX2_readWho_24 (hL _ (by decide)) rfl rfl rfl (by omega) (Nat.le_refl _) (Nat.le_refl _) (Nat.le_of_ble_eq_true rfl) rfl (fun r24 c24 a24 hR24 => ?_)
        obtain ⟨rfl, hs, ha⟩ := hR24
        rw [hs, ha]
        clear hs ha
        refine C.if_eqI (tgt := 38) dX2_readWho_27 (by decide) (by decide) (fun hc27 => ?_) (fun hc27 => absurd hc27 (by decide))
        refine C.aload_n dX2_readWho_38 rfl ?_
        refine C.ic dX2_readWho_39 ?_
        refine C.kput_32 hL pf_X2_31 dX2_readWho_40 ?_
        refine C.aload_n dX2_readWho_43 rfl ?_
        refine C.getf gf_X2_21 dX2_readWho_44 (hL _ (by decide)) rfl rfl ?_
        refine C.ic dX2_readWho_47 ?_
        refine C.kcall (M3) cw_X6_take ml_X2_54 im_X6_take sl_X6_take dX2_readWho_48 (hL _ (by decide)) rfl rfl rfl (by omega) (Nat.le_refl _) (Nat.le_refl _) (Nat.le_of_ble_eq_true rfl) rfl (fun r48 c48 a48 hR48 => ?_)
        obtain ⟨rfl, hs, ha⟩ := hR48
        rw [hs, ha]
        clear hs ha
        refine C.retI rfl (by first | rfl | (exact (iI_bool (by first | exact Or.inl rfl | exact Or.inr rfl | assumption)).1)) dX2_readWho_51 (Nat.le_refl _) (Nat.le_refl _) ⟨_, _, ?_, rfl, rfl⟩
        refine ⟨rfl, fun _ => ⟨rfl, by rw [hv, upI (by decide)], by rw [hq]; exact t2 ct, tk_lt (t1.trans ct)⟩, fun h => absurd h (by omega)⟩
      | false =>
        have hv : whoV tb e p = -1 := by unfold whoV; rw [cy, cw, ct]; rfl
        have M3 := b_takeF (d := d - 1) (g := g) (w := 2) (by unfold i3; decide) hL hT2 (t1.trans ct)
        refine C.aload_n dX2_readWho_0 rfl ?_
        refine C.getf gf_X2_21 dX2_readWho_1 (hL _ (by decide)) rfl rfl ?_
        refine C.ic dX2_readWho_4 ?_
        refine C.kcall (M) cw_X6_take ml_X2_54 im_X6_take sl_X6_take dX2_readWho_5 (hL _ (by decide)) rfl rfl rfl (by omega) (Nat.le_refl _) (Nat.le_refl _) (Nat.le_of_ble_eq_true rfl) rfl (fun r5 c5 a5 hR5 => ?_)
        obtain ⟨rfl, hs, ha⟩ := hR5
        rw [hs, ha]
        clear hs ha
        refine C.if_eqI (tgt := 19) dX2_readWho_8 (by decide) (by decide) (fun hc8 => ?_) (fun hc8 => absurd hc8 (by decide))
        refine C.aload_n dX2_readWho_19 rfl ?_
        refine C.getf gf_X2_21 dX2_readWho_20 (hL _ (by decide)) rfl rfl ?_
        refine C.ic dX2_readWho_23 ?_
        refine C.kcall (M2) cw_X6_take ml_X2_54 im_X6_take sl_X6_take dX2_readWho_24 (hL _ (by decide)) rfl rfl rfl (by omega) (Nat.le_refl _) (Nat.le_refl _) (Nat.le_of_ble_eq_true rfl) rfl (fun r24 c24 a24 hR24 => ?_)
        obtain ⟨rfl, hs, ha⟩ := hR24
        rw [hs, ha]
        clear hs ha
        refine C.if_eqI (tgt := 38) dX2_readWho_27 (by decide) (by decide) (fun hc27 => ?_) (fun hc27 => absurd hc27 (by decide))
        refine C.aload_n dX2_readWho_38 rfl ?_
        refine C.ic dX2_readWho_39 ?_
        refine C.kput_32 hL pf_X2_31 dX2_readWho_40 ?_
        refine C.aload_n dX2_readWho_43 rfl ?_
        refine C.getf gf_X2_21 dX2_readWho_44 (hL _ (by decide)) rfl rfl ?_
        refine C.ic dX2_readWho_47 ?_
        refine C.kcall (M3) cw_X6_take ml_X2_54 im_X6_take sl_X6_take dX2_readWho_48 (hL _ (by decide)) rfl rfl rfl (by omega) (Nat.le_refl _) (Nat.le_refl _) (Nat.le_of_ble_eq_true rfl) rfl (fun r48 c48 a48 hR48 => ?_)
        obtain ⟨rfl, hs, ha⟩ := hR48
        rw [hs, ha]
        clear hs ha
        refine C.retI rfl (by first | rfl | (exact (iI_bool (by first | exact Or.inl rfl | exact Or.inr rfl | assumption)).1)) dX2_readWho_51 (Nat.le_refl _) (Nat.le_refl _) ⟨_, _, ?_, rfl, rfl⟩
        refine ⟨rfl, fun h => absurd h (by omega), fun _ => ⟨rfl, rfl⟩⟩
theorem b_readMode (hd : 1 ≤ d) (hL : ∀ k, k < 36 → k ∈ L) (hT : TsAt c a ts e i) (hk : Tk tb e ts i p) : KA yX2_readMode cX2_readMode 1 (some .boolean) d [.ref 3] L g c a (fun r c' a' => a' = a ∧ (0 ≤ modV tb e p → r = some (.int (iI 1)) ∧ ∃ i' : Nat, c' = va_up (va_up c 65 (i' : Int)) 33 (modV tb e p) ∧ Tk tb e ts i' (modQ tb e p) ∧ i' ≤ ts.length) ∧ (modV tb e p < 0 → r = some (.int (iI 0)) ∧ c' = c)) := by
  obtain ⟨y1, y2⟩ := tk_is (w := 5) (by omega) hk
  obtain ⟨w1, w2⟩ := tk_is (w := 3) (by omega) hk
  change tkIs ts i 5 = psP tb e p zMay at y1
  change psP tb e p zMay = true → _ at y2
  change tkIs ts i 3 = psP tb e p zMust at w1
  change psP tb e p zMust = true → _ at w2
  refine KA.of (by decide +kernel) rfl (Nat.le_of_ble_eq_true rfl) (fun X C => ?_)
  cases cy : psP tb e p zMay with
  | true =>
    have hv : modV tb e p = 2 := by unfold modV; rw [cy]; rfl
    have hq : modQ tb e p = wend tb e (bl tb e p) := by unfold modQ; rw [cy]; rfl
    have M := b_takeT (d := d - 1) (g := g) (w := 5) (by unfold i3; decide) hL hT (y1.trans cy)
    refine C.aload_n dX2_readMode_0 rfl ?_
    refine C.getf gf_X2_21 dX2_readMode_1 (hL _ (by decide)) rfl rfl ?_
    refine C.ic dX2_readMode_4 ?_
    refine C.kcall (M) cw_X6_take ml_X2_54 im_X6_take sl_X6_take dX2_readMode_5 (hL _ (by decide)) rfl rfl rfl (by omega) (Nat.le_refl _) (Nat.le_refl _) (Nat.le_of_ble_eq_true rfl) rfl (fun r5 c5 a5 hR5 => ?_)
    obtain ⟨rfl, hs, ha⟩ := hR5
    rw [hs, ha]
    clear hs ha
    refine C.if_eqI (tgt := 18) dX2_readMode_8 (by decide) (by decide) (fun hc8 => absurd hc8 (by decide)) (fun hc8 => ?_)
    refine C.aload_n dX2_readMode_11 rfl ?_
    refine C.ic dX2_readMode_12 ?_
    refine C.kput_33 hL pf_X2_35 dX2_readMode_13 ?_
    refine C.ic dX2_readMode_16 ?_
    refine C.retI rfl (by first | rfl | (exact (iI_bool (by first | exact Or.inl rfl | exact Or.inr rfl | assumption)).1)) dX2_readMode_17 (Nat.le_refl _) (Nat.le_refl _) ⟨_, _, ?_, rfl, rfl⟩
    refine ⟨rfl, fun _ => ⟨rfl, i + 1, by rw [hv], by rw [hq]; exact y2 cy, tk_lt (y1.trans cy)⟩, fun h => absurd h (by omega)⟩
  | false =>
    have M := b_takeF (d := d - 1) (g := g) (w := 5) (by unfold i3; decide) hL hT (y1.trans cy)
    cases cw : psP tb e p zMust with
    | false =>
      have hv : modV tb e p = -1 := by unfold modV; rw [cy, cw]; rfl
      have M2 := b_takeF (d := d - 1) (g := g) (w := 3) (by unfold i3; decide) hL hT (w1.trans cw)
      refine C.aload_n dX2_readMode_0 rfl ?_
      refine C.getf gf_X2_21 dX2_readMode_1 (hL _ (by decide)) rfl rfl ?_
      refine C.ic dX2_readMode_4 ?_
      refine C.kcall (M) cw_X6_take ml_X2_54 im_X6_take sl_X6_take dX2_readMode_5 (hL _ (by decide)) rfl rfl rfl (by omega) (Nat.le_refl _) (Nat.le_refl _) (Nat.le_of_ble_eq_true rfl) rfl (fun r5 c5 a5 hR5 => ?_)
      obtain ⟨rfl, hs, ha⟩ := hR5
      rw [hs, ha]
      clear hs ha
      refine C.if_eqI (tgt := 18) dX2_readMode_8 (by decide) (by decide) (fun hc8 => ?_) (fun hc8 => absurd hc8 (by decide))
      refine C.aload_n dX2_readMode_18 rfl ?_
      refine C.getf gf_X2_21 dX2_readMode_19 (hL _ (by decide)) rfl rfl ?_
      refine C.ic dX2_readMode_22 ?_
      refine C.kcall (M2) cw_X6_take ml_X2_54 im_X6_take sl_X6_take dX2_readMode_23 (hL _ (by decide)) rfl rfl rfl (by omega) (Nat.le_refl _) (Nat.le_refl _) (Nat.le_of_ble_eq_true rfl) rfl (fun r23 c23 a23 hR23 => ?_)
      obtain ⟨rfl, hs, ha⟩ := hR23
      rw [hs, ha]
      clear hs ha
      refine C.if_neI (tgt := 31) dX2_readMode_26 (by decide) (by decide) (fun hc26 => absurd hc26 (by decide)) (fun hc26 => ?_)
      refine C.ic dX2_readMode_29 ?_
      refine C.retI rfl (by first | rfl | (exact (iI_bool (by first | exact Or.inl rfl | exact Or.inr rfl | assumption)).1)) dX2_readMode_30 (Nat.le_refl _) (Nat.le_refl _) ⟨_, _, ?_, rfl, rfl⟩
      refine ⟨rfl, fun h => absurd h (by omega), fun _ => ⟨rfl, rfl⟩⟩
    | true =>
      have M2 := b_takeT (d := d - 1) (g := g) (w := 3) (by unfold i3; decide) hL hT (w1.trans cw)
      have hk2 := w2 cw
      have hT2 := hT.at (tk_lt (w1.trans cw))
      obtain ⟨n1, n2⟩ := tk_is (w := 4) (by omega) hk2
      change tkIs ts (i + 1) 4 = psP tb e (wend tb e (bl tb e p)) zNot at n1
      change psP tb e (wend tb e (bl tb e p)) zNot = true → _ at n2
      cases cn : psP tb e (wend tb e (bl tb e p)) zNot with
      | true =>
        have hv : modV tb e p = 1 := by unfold modV; rw [cy, cw, cn]; rfl
        have hq : modQ tb e p = wend tb e (bl tb e (wend tb e (bl tb e p))) := by unfold modQ; rw [cy, cw, cn]; rfl
        have M3 := b_takeT (d := d - 1) (g := g) (w := 4) (by unfold i3; decide) hL hT2 (n1.trans cn)
        rw [upSF] at M3
        refine C.aload_n dX2_readMode_0 rfl ?_
        refine C.getf gf_X2_21 dX2_readMode_1 (hL _ (by decide)) rfl rfl ?_
        refine C.ic dX2_readMode_4 ?_
        refine C.kcall (M) cw_X6_take ml_X2_54 im_X6_take sl_X6_take dX2_readMode_5 (hL _ (by decide)) rfl rfl rfl (by omega) (Nat.le_refl _) (Nat.le_refl _) (Nat.le_of_ble_eq_true rfl) rfl (fun r5 c5 a5 hR5 => ?_)
        obtain ⟨rfl, hs, ha⟩ := hR5
        rw [hs, ha]
        clear hs ha
        refine C.if_eqI (tgt := 18) dX2_readMode_8 (by decide) (by decide) (fun hc8 => ?_) (fun hc8 => absurd hc8 (by decide))
        refine C.aload_n dX2_readMode_18 rfl ?_
        refine C.getf gf_X2_21 dX2_readMode_19 (hL _ (by decide)) rfl rfl ?_
        refine C.ic dX2_readMode_22 ?_
        refine C.kcall (M2) cw_X6_take ml_X2_54 im_X6_take sl_X6_take dX2_readMode_23 (hL _ (by decide)) rfl rfl rfl (by omega) (Nat.le_refl _) (Nat.le_refl _) (Nat.le_of_ble_eq_true rfl) rfl (fun r23 c23 a23 hR23 => ?_)
        obtain ⟨rfl, hs, ha⟩ := hR23
        rw [hs, ha]
        clear hs ha
        refine C.if_neI (tgt := 31) dX2_readMode_26 (by decide) (by decide) (fun hc26 => ?_) (fun hc26 => absurd hc26 (by decide))
        refine C.aload_n dX2_readMode_31 rfl ?_
        refine C.aload_n dX2_readMode_32 rfl ?_
        refine C.getf gf_X2_21 dX2_readMode_33 (hL _ (by decide)) rfl rfl ?_
        refine C.ic dX2_readMode_36 ?_
        refine C.kcall (M3) cw_X6_take ml_X2_54 im_X6_take sl_X6_take dX2_readMode_37 (hL _ (by decide)) rfl rfl rfl (by omega) (Nat.le_refl _) (Nat.le_refl _) (Nat.le_of_ble_eq_true rfl) rfl (fun r37 c37 a37 hR37 => ?_)
        obtain ⟨rfl, hs, ha⟩ := hR37
        rw [hs, ha]
        clear hs ha
        refine C.if_eqI (tgt := 47) dX2_readMode_40 (by decide) (by decide) (fun hc40 => absurd hc40 (by decide)) (fun hc40 => ?_)
        refine C.ic dX2_readMode_43 ?_
        refine C.goto (tgt := 48) dX2_readMode_44 (by decide) ?_
        refine C.kput_33 hL pf_X2_35 dX2_readMode_48 ?_
        refine C.ic dX2_readMode_51 ?_
        refine C.retI rfl (by first | rfl | (exact (iI_bool (by first | exact Or.inl rfl | exact Or.inr rfl | assumption)).1)) dX2_readMode_52 (Nat.le_refl _) (Nat.le_refl _) ⟨_, _, ?_, rfl, rfl⟩
        refine ⟨rfl, fun _ => ⟨rfl, i + 1 + 1, by rw [hv], by rw [hq]; exact n2 cn, tk_lt (n1.trans cn)⟩, fun h => absurd h (by omega)⟩
      | false =>
        have hv : modV tb e p = 0 := by unfold modV; rw [cy, cw, cn]; rfl
        have hq : modQ tb e p = bl tb e (wend tb e (bl tb e p)) := by unfold modQ; rw [cy, cw, cn]; rfl
        have M3 := b_takeF (d := d - 1) (g := g) (w := 4) (by unfold i3; decide) hL hT2 (n1.trans cn)
        refine C.aload_n dX2_readMode_0 rfl ?_
        refine C.getf gf_X2_21 dX2_readMode_1 (hL _ (by decide)) rfl rfl ?_
        refine C.ic dX2_readMode_4 ?_
        refine C.kcall (M) cw_X6_take ml_X2_54 im_X6_take sl_X6_take dX2_readMode_5 (hL _ (by decide)) rfl rfl rfl (by omega) (Nat.le_refl _) (Nat.le_refl _) (Nat.le_of_ble_eq_true rfl) rfl (fun r5 c5 a5 hR5 => ?_)
        obtain ⟨rfl, hs, ha⟩ := hR5
        rw [hs, ha]
        clear hs ha
        refine C.if_eqI (tgt := 18) dX2_readMode_8 (by decide) (by decide) (fun hc8 => ?_) (fun hc8 => absurd hc8 (by decide))
        refine C.aload_n dX2_readMode_18 rfl ?_
        refine C.getf gf_X2_21 dX2_readMode_19 (hL _ (by decide)) rfl rfl ?_
        refine C.ic dX2_readMode_22 ?_
        refine C.kcall (M2) cw_X6_take ml_X2_54 im_X6_take sl_X6_take dX2_readMode_23 (hL _ (by decide)) rfl rfl rfl (by omega) (Nat.le_refl _) (Nat.le_refl _) (Nat.le_of_ble_eq_true rfl) rfl (fun r23 c23 a23 hR23 => ?_)
        obtain ⟨rfl, hs, ha⟩ := hR23
        rw [hs, ha]
        clear hs ha
        refine C.if_neI (tgt := 31) dX2_readMode_26 (by decide) (by decide) (fun hc26 => ?_) (fun hc26 => absurd hc26 (by decide))
        refine C.aload_n dX2_readMode_31 rfl ?_
        refine C.aload_n dX2_readMode_32 rfl ?_
        refine C.getf gf_X2_21 dX2_readMode_33 (hL _ (by decide)) rfl rfl ?_
        refine C.ic dX2_readMode_36 ?_
        refine C.kcall (M3) cw_X6_take ml_X2_54 im_X6_take sl_X6_take dX2_readMode_37 (hL _ (by decide)) rfl rfl rfl (by omega) (Nat.le_refl _) (Nat.le_refl _) (Nat.le_of_ble_eq_true rfl) rfl (fun r37 c37 a37 hR37 => ?_)
        obtain ⟨rfl, hs, ha⟩ := hR37
        rw [hs, ha]
        clear hs ha
        refine C.if_eqI (tgt := 47) dX2_readMode_40 (by decide) (by decide) (fun hc40 => ?_) (fun hc40 => absurd hc40 (by decide))
        refine C.ic dX2_readMode_47 ?_
        refine C.kput_33 hL pf_X2_35 dX2_readMode_48 ?_
        refine C.ic dX2_readMode_51 ?_
        refine C.retI rfl (by first | rfl | (exact (iI_bool (by first | exact Or.inl rfl | exact Or.inr rfl | assumption)).1)) dX2_readMode_52 (Nat.le_refl _) (Nat.le_refl _) ⟨_, _, ?_, rfl, rfl⟩
        refine ⟨rfl, fun _ => ⟨rfl, i + 1, by rw [hv], by rw [hq]; exact hk2.bl, tk_lt (w1.trans cw)⟩, fun h => absurd h (by omega)⟩
theorem b_isTold {xs : List Int} {v : Int} (hv : i3 v) (hL : ∀ k, k < 36 → k ∈ L) (hA : AcS c a xs) : KA yX2_isTold cX2_isTold 3 (some .boolean) d [.ref 3, .int (iI v)] L g c a (fun r c' a' => r = some (.int (iI (b2i (decide (v ∈ xs))))) ∧ c' = c ∧ a' = a) := by
  obtain ⟨h35, h3, hrow, h9, -⟩ := hA
  unfold i3 at hv
  refine KA.of (by decide +kernel) rfl (Nat.le_of_ble_eq_true rfl) (fun X C => ?_)
  have loop : ∀ (ys done : List Int), xs = done ++ ys → v ∉ done → X 0 0 L (kv c a g) 2 [some (.ref 3), some (.int (iI v)), some (.int (iI done.length))] [] := by
    intro ys
    induction ys with
    | nil =>
      intro done hdn hno
      rw [List.append_nil] at hdn
      have hl : xs.length = done.length := by rw [hdn]
      refine C.iload_n dX2_isTold_2 rfl ?_
      refine C.aload_n dX2_isTold_3 rfl ?_
      refine C.getf gf_X2_38 dX2_isTold_4 (hL _ (by decide)) rfl rfl ?_
      refine C.topI (b := (xs.length : Int)) h35 ?_
      refine C.icmp_geI (tgt := 37) dX2_isTold_7 (by decide) (by omega) (by omega) (fun hc7 => ?_) (fun hc7 => absurd hc7 (by omega))
      refine C.ic dX2_isTold_37 ?_
      refine C.retI rfl (by first | rfl | (exact (iI_bool (by first | exact Or.inl rfl | exact Or.inr rfl | assumption)).1)) dX2_isTold_38 (Nat.le_refl _) (Nat.le_refl _) ⟨_, _, ?_, rfl, rfl⟩
      rw [decide_eq_false (by rw [hdn]; exact hno)]
      exact ⟨rfl, rfl, rfl⟩
    | cons y ys ih =>
      intro done hdn hno
      have hl : xs.length = done.length + (ys.length + 1) := by rw [hdn, List.length_append, List.length_cons]
      have hyi : xs[done.length]? = some y := by rw [hdn, List.getElem?_append_right (Nat.le_refl _), Nat.sub_self]; rfl
      have hgi := hrow _ y hyi
      have hy9 := h9 y (List.mem_of_getElem? hyi)
      have nx := ih (done ++ [y]) (by rw [hdn, List.append_assoc]; rfl)
      rw [List.length_append] at nx
      refine C.iload_n dX2_isTold_2 rfl ?_
      refine C.aload_n dX2_isTold_3 rfl ?_
      refine C.getf gf_X2_38 dX2_isTold_4 (hL _ (by decide)) rfl rfl ?_
      refine C.topI (b := (xs.length : Int)) h35 ?_
      refine C.icmp_geI (tgt := 37) dX2_isTold_7 (by decide) (by omega) (by omega) (fun hc7 => absurd hc7 (by omega)) (fun hc7 => ?_)
      refine C.iload_n dX2_isTold_10 rfl ?_
      refine C.aload_n dX2_isTold_11 rfl ?_
      refine C.getf gf_X2_27 dX2_isTold_12 (hL _ (by decide)) rfl rfl ?_
      refine C.alenI dX2_isTold_15 (hL _ (by decide)) rfl (by decide) ?_
      refine C.icmp_geI (tgt := 37) dX2_isTold_16 (by decide) (by omega) (by decide) (fun hc16 => absurd hc16 (by omega)) (fun hc16 => ?_)
      refine C.aload_n dX2_isTold_19 rfl ?_
      refine C.getf gf_X2_27 dX2_isTold_20 (hL _ (by decide)) rfl rfl ?_
      refine C.iload_n dX2_isTold_23 rfl ?_
      refine C.kald_10 hL (k := done.length) dX2_isTold_24 (by omega) (by omega) ?_
      refine C.topI (b := y) hgi ?_
      refine C.iload_n dX2_isTold_25 rfl ?_
      refine C.icmp_neI (tgt := 31) dX2_isTold_26 (by decide) (by omega) (by omega) (fun hc26 => ?_) (fun hc26 => ?_)
      · refine C.iincI dX2_isTold_31 rfl (by decide) rfl ?_
        refine C.goto (tgt := 2) dX2_isTold_34 (by decide) ?_
        exact nx (fun h => by
          rcases List.mem_append.mp h with h | h
          · exact hno h
          · exact hc26 (List.mem_singleton.mp h).symm)
      · refine C.ic dX2_isTold_29 ?_
        refine C.retI rfl (by first | rfl | (exact (iI_bool (by first | exact Or.inl rfl | exact Or.inr rfl | assumption)).1)) dX2_isTold_30 (Nat.le_refl _) (Nat.le_refl _) ⟨_, _, ?_, rfl, rfl⟩
        rw [decide_eq_true (show v ∈ xs by
          have : y = v := by omega
          rw [← this]
          exact List.mem_of_getElem? hyi)]
        exact ⟨rfl, rfl, rfl⟩
  have l0 := loop xs [] rfl (by simp)
  refine C.ic dX2_isTold_0 ?_
  refine C.istore_n dX2_isTold_1 (by decide) rfl ?_
  exact l0
end BODY
