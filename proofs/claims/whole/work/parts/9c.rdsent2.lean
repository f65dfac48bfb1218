def sEnd {α : Type} (res : (α × Nat) ⊕ Nat) : Nat := match res with
  | .inl q => q.2
  | .inr b => b
theorem sb_r {α β : Type} (b : Nat) (k : α → Nat → (β × Nat) ⊕ Nat) : sbind (.inr b) k = .inr b := rfl
theorem sb_l {α β : Type} (x : α) (p : Nat) (k : α → Nat → (β × Nat) ⊕ Nat) : sbind (.inl (x, p)) k = k x p := rfl
section SUP
variable {tb : Nat → Int} {e p : Nat}
theorem pasP_up (q : List Int × Nat) : q.2 ≤ sEnd (pasP tb e q) := by
  have h1 := bl_ge tb e q.2
  have h2 := modQ_up (tb := tb) (e := e) (p := q.2)
  have h3 := bl_ge tb e (modQ tb e q.2)
  have h4 := wend_ge tb e (bl tb e (modQ tb e q.2))
  unfold pasP
  generalize modQ tb e q.2 = p2 at *
  generalize wend tb e (bl tb e p2) = p3 at *
  have h5 := bl_ge tb e p3
  have h6 := wend_ge tb e (bl tb e p3)
  generalize wend tb e (bl tb e p3) = p4 at *
  have h7 := bl_ge tb e p4
  have h8 := wend_ge tb e (bl tb e p4)
  generalize wend tb e (bl tb e p4) = p5 at *
  have h9 := bl_ge tb e p5
  have h10 := whoQ_up (tb := tb) (e := e) (p := p5)
  repeat' split
  all_goals (simp only [sEnd]; omega)
theorem abP_up {r : RLs} {k : List Int × Nat → (BD × Nat) ⊕ Nat} {p : Nat} (h1 : ∀ q, r = .inl q → p ≤ sEnd (k q)) (h2 : ∀ b, r = .inr b → p ≤ b) : p ≤ sEnd (abP r k) := by
  cases r with
  | inl q => exact h1 q rfl
  | inr b => exact h2 b rfl
theorem bodyP_up : p ≤ sEnd (bodyP tb e p) := by
  have h1 := bl_ge tb e p
  by_cases hw : 0 ≤ whoV tb e p
  · rw [bodyP_act hw]
    have h2 := whoQ_up (tb := tb) (e := e) (p := p)
    have h3 := bl_ge tb e (whoQ tb e p)
    have h4 := modQ_up (tb := tb) (e := e) (p := whoQ tb e p)
    split
    · show p ≤ bl tb e (whoQ tb e p); omega
    · obtain ⟨i1, i2⟩ := actF_up (tb := tb) (e := e) 3 [] (modQ tb e (whoQ tb e p))
      exact abP_up (fun q hq => by have := i1 q hq; show p ≤ q.2; omega) (fun b hb => by have := i2 b hb; omega)
  · unfold bodyP
    rw [if_neg hw]
    cases ha : psP tb e p zAct with
    | false => exact h1
    | true =>
      rw [if_pos rfl, actF_has ha]
      obtain ⟨i1, i2⟩ := actF_up (tb := tb) (e := e) 3 [] p
      cases hq : actF tb e 3 [] p false with
      | inr b => exact i2 b hq
      | inl q =>
        have h2 := i1 q hq
        have h3 := pasP_up (tb := tb) (e := e) q
        show p ≤ sEnd (pasP tb e q)
        omega
theorem wiP_up {β : Type} {k : Int → β} {RES : (β × Nat) ⊕ Nat} (h : sbind (wiP tb e p) (fun dy p4 => .inl (k dy, p4)) = RES) : p ≤ sEnd RES := by
  have h1 := bl_ge tb e p
  have h2 := wend_ge tb e (bl tb e p)
  have h3 := bl_ge tb e (wend tb e (bl tb e p))
  have h4 := dend_up tb e (bl tb e (wend tb e (bl tb e p)))
  rw [← h]
  unfold wiP
  repeat' split
  all_goals (simp only [sb_r, sb_l, sEnd]; omega)
theorem unP_up {β : Type} {k : Option TT → Int → β} {RES : (β × Nat) ⊕ Nat} (hp : p ≤ e) (h : sbind (unP tb e p) (fun u p3 => sbind (wiP tb e p3) (fun dy p4 => .inl (k u dy, p4))) = RES) : p ≤ sEnd RES := by
  have h1 := bl_ge tb e p
  have h1e : bl tb e p ≤ e := bl_le hp
  have h2 := wend_ge tb e (bl tb e p)
  have h2e : wend tb e (bl tb e p) ≤ e := wend_le h1e
  unfold unP at h
  cases hu : psP tb e p zUnless with
  | false =>
    rw [hu, if_neg (by decide), sb_l] at h
    have := wiP_up h
    omega
  | true =>
    rw [hu, if_pos rfl] at h
    obtain ⟨g1, g2⟩ := condP_rd tb e (wend tb e (bl tb e p)) h2e
    cases hq : condP tb e 12 (wend tb e (bl tb e p)) with
    | inr b =>
      rw [hq, sb_r, sb_r] at h
      have := g2 b hq
      rw [← h]
      show p ≤ b
      omega
    | inl q =>
      obtain ⟨t, p1⟩ := q
      rw [hq, sb_l, sb_l] at h
      have := g1 t p1 hq
      have h5 := wiP_up h
      omega
theorem bdP_up {β : Type} {k : BD → Option TT → Int → β} {RES : (β × Nat) ⊕ Nat} (hp : p ≤ e) (h : sbind (bodyP tb e p) (fun b p2 => sbind (unP tb e p2) (fun u p3 => sbind (wiP tb e p3) (fun dy p4 => .inl (k b u dy, p4)))) = RES) : p ≤ sEnd RES := by
  have h1 := bodyP_up (tb := tb) (e := e) (p := p)
  cases hb : bodyP tb e p with
  | inr b =>
    rw [hb] at h h1
    rw [sb_r] at h
    rw [← h]
    exact h1
  | inl q =>
    obtain ⟨b, p2⟩ := q
    have h2 := (bodyP_ok hp hb).2
    rw [hb] at h h1
    rw [sb_l] at h
    have h3 := unP_up (k := fun u dy => k b u dy) h2 h
    change p ≤ p2 at h1
    omega
end SUP
/-- what reading a sentence ends with -/
def SnPo (tb : Nat → Int) (e : Nat) (ts : List (Int × Int × Int)) (c : SF) (a : SA) (L : List Nat) (f : Nat → AC) (e1 : Nat) (ps : List (Nat × Sen)) (res : (Sen × Nat) ⊕ Nat) : AT := fun r L' f' => ∃ (c' : SF) (a' : SA) (i' e' : Nat) (ps' : List (Nat × Sen)), (f' = kv c' a' f' ∧ (∀ k, k < 36 → k ∈ L') ∧ T18 L' f' ∧ TsAt c' a' ts e i' ∧ LtAt L' f' 4 e' ps' ∧ GR c c' a a' ∧ FH e1 L f L' f' ∧ (e' = e1 ∨ (e' ∉ L ∧ 2000 ≤ e'))) ∧ (match res with
  | .inl q => r = some (.int (iI 1)) ∧ Tk tb e ts i' q.2 ∧ ps'.map (fun p => p.2) = ps.map (fun p => p.2) ++ [q.1]
  | .inr b => tkBeg ts i' e = (b : Int) ∧ ps'.length ≤ ps.length + 1 ∧ (r = some (.int (iI 0)) ∨ (r = some (.int (iI 1)) ∧ tkIs ts i' 7 = true)))
theorem Fo.h {L L' : List Nat} {f f' : Nat → AC} {e1 : Nat} (h : Fo L f L' f') : FH e1 L f L' f' := ⟨h.1, fun q hq _ _ => h.2 q hq⟩
/-- the middle of a sentence -/
def SM (e : Nat) (ts : List (Int × Int × Int)) (c : SF) (a : SA) (L : List Nat) (f : Nat → AC) (L1 : List Nat) (f1 : Nat → AC) (c1 : SF) (a1 : SA) (i1 : Nat) : Prop := f1 = kv c1 a1 f1 ∧ (∀ k, k < 36 → k ∈ L1) ∧ T18 L1 f1 ∧ TsAt c1 a1 ts e i1 ∧ GR c c1 a a1 ∧ FE [3, 6, 10] L f L1 f1
section SMM
variable {tb : Nat → Int} {e i1 i2 p p2 : Nat} {ts : List (Int × Int × Int)} {c c1 : SF} {a a1 : SA} {L L1 L2 : List Nat} {f f1 f2 : Nat → AC}
theorem SM.rs (h : SM e ts c a L f L1 f1 c1 a1 i1) (hk : Tk tb e ts i1 p) : RS tb e ts c1 a1 L1 f1 i1 p := RS.of h.1 h.2.1 h.2.2.2.1 h.2.2.1 hk
theorem SM.step (h : SM e ts c a L f L1 f1 c1 a1 i1) (hR : RS tb e ts c1 a1 L2 f2 i2 p2) (hF : FE [6] L1 f1 L2 f2) : SM e ts c a L f L2 f2 (va_up c1 65 (i2 : Int)) a1 i2 := ⟨hR.1, hR.2.1, hR.2.2.2.1, hR.2.2.1, h.2.2.2.2.1.up (by omega), h.2.2.2.2.2.tr (hF.mono e6m)⟩
theorem SM.stepE {b : Nat} (h : SM e ts c a L f L1 f1 c1 a1 i1) (hR : RE e ts c1 a1 L2 f2 i2 b) (hF : FE [6] L1 f1 L2 f2) : SM e ts c a L f L2 f2 (va_up c1 65 (i2 : Int)) a1 i2 := ⟨hR.1, hR.2.1, hR.2.2.2.1, hR.2.2.1, h.2.2.2.2.1.up (by omega), h.2.2.2.2.2.tr (hF.mono e6m)⟩
theorem SM.body {c2 : SF} {a2 : SA} (h : SM e ts c a L f L1 f1 c1 a1 i1) (hG : Gr c1 c2 a1 a2) (hT : TsAt c2 a2 ts e i2) : SM e ts c a L f L1 (kv c2 a2 f1) c2 a2 i2 := by
  have hF : FE [3, 6, 10] L1 f1 L1 (kv c2 a2 f1) := kv_FE h.1 hG
  exact ⟨kv_idem.symm, h.2.1, ⟨h.2.2.1.1, (hF.2 18 h.2.2.1.1 (by decide)).trans h.2.2.1.2⟩, hT, h.2.2.2.2.1.tr hG.R, h.2.2.2.2.2.tr hF⟩
theorem SM.o3 (h : SM e ts c a L f L1 f1 c1 a1 i1) : 3 ∈ L1 ∧ f1 3 = .inr (5, ko3 c1) := ⟨h.2.1 3 (by omega), by rw [h.1]; rfl⟩
theorem SM.o6 (h : SM e ts c a L f L1 f1 c1 a1 i1) : 6 ∈ L1 ∧ f1 6 = .inr (8, ko6 c1) := ⟨h.2.1 6 (by omega), by rw [h.1]; rfl⟩
end SMM
