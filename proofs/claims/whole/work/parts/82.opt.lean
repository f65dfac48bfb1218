/-- a condition or none of it -/
def OAt (L : List Nat) (f : Nat → AC) (D : Nat) (o : Option Nat) (w : Option TT) : Prop := match o, w with
  | none, none => True
  | some q, some t => CAt L f D q t ∧ isT t ∧ (cd t 0).length ≤ 400
  | _, _ => False
theorem OAt.keep {L L' : List Nat} {f f' : Nat → AC} {D : Nat} {o : Option Nat} {w : Option TT} (h : OAt L f D o w) (hF : Fp L f L' f') : OAt L' f' D o w := by
  cases o with
  | none =>
    cases w with
    | none => trivial
    | some t => exact h.elim
  | some q =>
    cases w with
    | none => exact h.elim
    | some t => exact ⟨CAt.keep hF D h.1, h.2⟩
theorem c_alikeO {d D : Nat} {o1 o2 : Option Nat} {w1 w2 : Option TT} {L : List Nat} {f : Nat → AC} (hd : D ≤ d) (hD : D ≤ 41) (h1 : OAt L f D o1 w1) (h2 : OAt L f D o2 w2) : AM yX0_alike cX0_alike 4 (some .boolean) d 0 0 [va_rf o1, va_rf o2, .int (iI 0)] L f (SP (some (.int (iI (b2i (decide (cdO w1 = cdO w2)))))) L f) := by
  cases o1 with
  | none =>
    cases w1 with
    | some t => exact h1.elim
    | none =>
      cases o2 with
      | none =>
        cases w2 with
        | some t => exact h2.elim
        | none =>
          show AM yX0_alike cX0_alike 4 (some .boolean) d 0 0 [.null, .null, .int (iI 0)] L f _
          refine AM.of (by decide +kernel) (by simp [Value.category]) (Nat.le_of_ble_eq_true rfl) false (fun h => by cases h) (fun X C => ?_)
          refine C.aload_nN dX0_alike_0 rfl ?_
          refine C.ifnullN (tgt := 8) dX0_alike_1 (by decide) ?_
          refine C.aload_nN dX0_alike_8 rfl ?_
          refine C.ifnonnullN dX0_alike_9 ?_
          refine C.aload_nN dX0_alike_12 rfl ?_
          refine C.ifnonnullN dX0_alike_13 ?_
          refine C.ic dX0_alike_16 ?_
          refine C.goto (tgt := 21) dX0_alike_17 (by decide) ?_
          exact C.retI rfl rfl dX0_alike_21 (Nat.le_refl _) (Nat.le_refl _) ⟨rfl, rfl, rfl⟩
      | some q2 =>
        cases w2 with
        | none => exact h2.elim
        | some t =>
          have hne : ¬ cdO none = cdO (some t) := fun e => by
            have := cd_len t h2.2.1 0
            have e2 : ([] : List Int) = cd t 0 := e
            rw [← e2] at this
            simp at this
          rw [decide_eq_false hne]
          show AM yX0_alike cX0_alike 4 (some .boolean) d 0 0 [.null, .ref q2, .int (iI 0)] L f _
          refine AM.of (by decide +kernel) (by simp [Value.category]) (Nat.le_of_ble_eq_true rfl) false (fun h => by cases h) (fun X C => ?_)
          refine C.aload_nN dX0_alike_0 rfl ?_
          refine C.ifnullN (tgt := 8) dX0_alike_1 (by decide) ?_
          refine C.aload_nN dX0_alike_8 rfl ?_
          refine C.ifnonnullN dX0_alike_9 ?_
          refine C.aload_n dX0_alike_12 rfl ?_
          refine C.ifnonnull (tgt := 20) dX0_alike_13 (by decide) ?_
          refine C.ic dX0_alike_20 ?_
          exact C.retI rfl rfl dX0_alike_21 (Nat.le_refl _) (Nat.le_refl _) ⟨rfl, rfl, rfl⟩
  | some q1 =>
    cases w1 with
    | none => exact h1.elim
    | some t1 =>
      cases o2 with
      | none =>
        cases w2 with
        | some t => exact h2.elim
        | none =>
          have hne : ¬ cdO (some t1) = cdO none := fun e => by
            have := cd_len t1 h1.2.1 0
            have e2 : cd t1 0 = ([] : List Int) := e
            rw [e2] at this
            simp at this
          rw [decide_eq_false hne]
          show AM yX0_alike cX0_alike 4 (some .boolean) d 0 0 [.ref q1, .null, .int (iI 0)] L f _
          refine AM.of (by decide +kernel) (by simp [Value.category]) (Nat.le_of_ble_eq_true rfl) false (fun h => by cases h) (fun X C => ?_)
          refine C.aload_n dX0_alike_0 rfl ?_
          refine C.ifnull dX0_alike_1 ?_
          refine C.aload_nN dX0_alike_4 rfl ?_
          refine C.ifnonnullN dX0_alike_5 ?_
          refine C.aload_n dX0_alike_8 rfl ?_
          refine C.ifnonnull (tgt := 20) dX0_alike_9 (by decide) ?_
          refine C.ic dX0_alike_20 ?_
          exact C.retI rfl rfl dX0_alike_21 (Nat.le_refl _) (Nat.le_refl _) ⟨rfl, rfl, rfl⟩
      | some q2 =>
        cases w2 with
        | none => exact h2.elim
        | some t2 =>
          have l1 := h1.2.2
          have l2 := h2.2.2
          exact c_alike D (dp := 0) hd (by omega) h1.2.1 h2.2.1 (by omega) (by omega) h1.1 h2.1
