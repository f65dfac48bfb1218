/-! the class's world behind a sentence read -/
/-- only what the reader holds may differ -/
def GR (c c' : SF) (a a' : SA) : Prop := (∀ j, j < 30 ∨ 100 < j → c' j = c j) ∧ ∀ b, b < 7 ∨ 10 < b → a' b = a b
theorem GR.rf {c : SF} {a : SA} : GR c c a a := ⟨fun _ _ => rfl, fun _ _ => rfl⟩
theorem GR.tr {c1 c2 c3 : SF} {a1 a2 a3 : SA} (h1 : GR c1 c2 a1 a2) (h2 : GR c2 c3 a2 a3) : GR c1 c3 a1 a3 := ⟨fun j x => (h2.1 j x).trans (h1.1 j x), fun b h => (h2.2 b h).trans (h1.2 b h)⟩
theorem Gr.R {c c' : SF} {a a' : SA} (h : Gr c c' a a') : GR c c' a a' := ⟨fun j x => h.1 j (by omega) (by omega) (by omega) (by omega), fun b x => h.2 b (by omega)⟩
theorem GR.up {c0 c : SF} {a0 a : SA} {k : Nat} {v : Int} (h : GR c0 c a0 a) (hk : 30 ≤ k ∧ k ≤ 100) : GR c0 (va_up c k v) a0 a := ⟨fun j x => by rw [va_up_ne _ _ (by omega)]; exact h.1 j x, h.2⟩
/-- all that lived above the class's own cells is as it was, but for a list's row -/
def FH (e1 : Nat) (L : List Nat) (f : Nat → AC) (L' : List Nat) (f' : Nat → AC) : Prop := (∀ q ∈ L, q ∈ L') ∧ ∀ q ∈ L, 17 ≤ q → (q = e1 → q = 17) → f' q = f q
section FHH
variable {e1 e2 : Nat} {L L1 L2 L' : List Nat} {f f1 f2 f' g : Nat → AC} {c c' : SF} {a a' : SA} {E : List Nat}
theorem FH.rf : FH e1 L f L f := ⟨fun _ h => h, fun _ _ _ _ => rfl⟩
theorem FH.tr (h1 : FH e1 L f L1 f1) (h2 : FH e2 L1 f1 L2 f2) (he : e2 = e1 ∨ (e2 ∉ L ∧ 2000 ≤ e2)) : FH e1 L f L2 f2 :=
  ⟨fun q hq => h2.1 q (h1.1 q hq), fun q hq h17 hqe => by
    rw [h2.2 q (h1.1 q hq) h17 (fun h => by
      rcases he with rfl | ⟨hn, -⟩
      · exact hqe h
      · exact absurd (h ▸ hq) hn), h1.2 q hq h17 hqe]⟩
theorem FE.h (h : FE E L f L' f') (hE : ∀ q ∈ E, q < 17) : FH e1 L f L' f' := ⟨h.1, fun q hq h17 _ => h.2 q hq (fun he => by have := hE q he; omega)⟩
theorem FqL.h {k : Nat} (h : FqL k e1 L f L' f') (hk : k < 17) : FH e1 L f L' f' := ⟨h.1, fun q hq h17 he => h.2 q hq (by omega) he⟩
theorem kv_noQ {q n : Nat} {gr : Nat → Option Nat} (hK : f = kv c a f) (h : q < 17) : f q ≠ aQ n gr := by
  rw [hK]
  rcases (show q = 0 ∨ q = 1 ∨ q = 2 ∨ q = 3 ∨ q = 4 ∨ q = 5 ∨ q = 6 ∨ q = 7 ∨ q = 8 ∨ q = 9 ∨ q = 10 ∨ q = 11 ∨ q = 12 ∨ q = 13 ∨ q = 14 ∨ q = 15 ∨ q = 16 by omega) with h | h | h | h | h | h | h | h | h | h | h | h | h | h | h | h | h <;> subst h <;> exact fun h => by (cases h)
theorem kv_no6 {q : Nat} {fs : List Value} (hK : f = kv c a f) (h : q < 17) : f q ≠ .inr (6, fs) := by
  rw [hK]
  rcases (show q = 0 ∨ q = 1 ∨ q = 2 ∨ q = 3 ∨ q = 4 ∨ q = 5 ∨ q = 6 ∨ q = 7 ∨ q = 8 ∨ q = 9 ∨ q = 10 ∨ q = 11 ∨ q = 12 ∨ q = 13 ∨ q = 14 ∨ q = 15 ∨ q = 16 by omega) with h | h | h | h | h | h | h | h | h | h | h | h | h | h | h | h | h <;> subst h <;> exact fun h => by (cases h)
theorem kv_Gr {q : Nat} (h : Gr c c' a a') (h3 : q ≠ 3) (h6 : q ≠ 6) (h10 : q ≠ 10) : kv c' a' g q = kv c a g q := by
  have e := fun j (x : j ≠ 32 ∧ j ≠ 33 ∧ j ≠ 35 ∧ j ≠ 65) => h.1 j x.1 x.2.1 x.2.2.1 x.2.2.2
  by_cases h17 : 17 ≤ q
  · rw [kv_ge h17, kv_ge h17]
  rcases (show q = 0 ∨ q = 1 ∨ q = 2 ∨ q = 4 ∨ q = 5 ∨ q = 7 ∨ q = 8 ∨ q = 9 ∨ q = 11 ∨ q = 12 ∨ q = 13 ∨ q = 14 ∨ q = 15 ∨ q = 16 by omega) with h0 | h0 | h0 | h0 | h0 | h0 | h0 | h0 | h0 | h0 | h0 | h0 | h0 | h0 <;> subst h0
  · show (.inr (10, ko0 c') : AC) = .inr (10, ko0 c)
    unfold ko0
    rw [e 5 (by decide), e 6 (by decide), e 7 (by decide)]
  · show (.inr (7, ko1 c') : AC) = .inr (7, ko1 c)
    unfold ko1
    rw [e 11 (by decide)]
  · show (.inl (0, 400, .inl (fun i => iI (a' 2 i))) : AC) = .inl (0, 400, .inl (fun i => iI (a 2 i)))
    rw [h.2 2 (by decide)]
  · rfl
  · show (.inr (2, ko5 c') : AC) = .inr (2, ko5 c)
    unfold ko5
    rw [e 50 (by decide), e 51 (by decide), e 52 (by decide)]
  · show (.inl (1, 400, .inl (fun i => iI (a' 7 i))) : AC) = .inl (1, 400, .inl (fun i => iI (a 7 i)))
    rw [h.2 7 (by decide)]
  · show (.inl (1, 400, .inl (fun i => iI (a' 8 i))) : AC) = .inl (1, 400, .inl (fun i => iI (a 8 i)))
    rw [h.2 8 (by decide)]
  · show (.inl (1, 400, .inl (fun i => iI (a' 9 i))) : AC) = .inl (1, 400, .inl (fun i => iI (a 9 i)))
    rw [h.2 9 (by decide)]
  · show (.inr (9, ko11 c') : AC) = .inr (9, ko11 c)
    unfold ko11
    rw [e 111 (by decide), e 112 (by decide)]
  · show (.inl (0, 400, .inl (fun i => iI (a' 12 i))) : AC) = .inl (0, 400, .inl (fun i => iI (a 12 i)))
    rw [h.2 12 (by decide)]
  · rfl
  · show (.inr (2, ko14 c') : AC) = .inr (2, ko14 c)
    unfold ko14
    rw [e 140 (by decide), e 141 (by decide), e 142 (by decide)]
  · rfl
  · show (.inr (2, ko16 c') : AC) = .inr (2, ko16 c)
    unfold ko16
    rw [e 160 (by decide), e 161 (by decide), e 162 (by decide)]
theorem kv_FE (hK : f = kv c a f) (h : Gr c c' a a') : FE [3, 6, 10] L f L (kv c' a' f) := ⟨fun _ h => h, fun q _ hq => by
  rw [kv_Gr h (fun h => hq (by simp [h])) (fun h => hq (by simp [h])) (fun h => hq (by simp [h]))]
  exact congrFun hK.symm q⟩
theorem kv_l5 {m n : Int} {e' : Nat} (hK : f = kv c a f) (h : ∀ q, q < 17 → q ≠ 5 → f' q = f q) (h5 : f' 5 = aL m e' n) : f' = kv (va_up (va_up (va_up c 50 m) 51 (e' : Int)) 52 n) a f' := by
  funext q
  by_cases h17 : 17 ≤ q
  · rw [kv_ge h17]
  · by_cases hq : q = 5
    · subst hq
      rw [h5]
      rfl
    · have h1 : f' q = kv c a f' q := by
        rw [h q (by omega) hq, kv_lo (g' := f) (by omega), ← hK]
      rw [h1]
      rcases (show q = 0 ∨ q = 1 ∨ q = 2 ∨ q = 3 ∨ q = 4 ∨ q = 6 ∨ q = 7 ∨ q = 8 ∨ q = 9 ∨ q = 10 ∨ q = 11 ∨ q = 12 ∨ q = 13 ∨ q = 14 ∨ q = 15 ∨ q = 16 by omega) with h | h | h | h | h | h | h | h | h | h | h | h | h | h | h | h <;> subst h <;> rfl
theorem LtAt.keepE {lt e : Nat} {ps : List (Nat × Sen)} (h : LtAt L f lt e ps) (hK : f = kv c a f) (hF : FE [3, 6, 10] L f L' f') (hlt : lt = 4 ∨ lt = 13 ∨ lt = 15) : LtAt L' f' lt e ps := by
  have hq : ∀ q, q ∈ L → q ≠ 3 → q ≠ 6 → q ≠ 10 → f' q = f q := fun q hq h3 h6 h10 => hF.2 q hq (fun h => by simp at h; omega)
  obtain ⟨⟨h0, h1, h2⟩, ⟨cap, ⟨⟨m, gr, l1, l2, l3, l4⟩, ⟨l5, l6⟩, l7⟩⟩, h4⟩ := h
  have he : ∀ q, q < 17 → e ≠ q := fun q hq he => by rw [he] at l2; exact kv_noQ hK hq l2
  refine ⟨⟨h0, hF.1 _ h1, by rw [hq lt h1 (by omega) (by omega) (by omega)]; exact h2⟩, ⟨cap, ⟨⟨m, gr, ?_, ?_, l3, fun i y hy => ?_⟩, ⟨hF.1 _ l5, hF.1 _ l6⟩, l7⟩⟩, fun p hp => (h4 p hp).keep (hF.p (fun q hq => by simp at hq; omega))⟩
  · rw [hq (lt + 1) l5 (by omega) (by omega) (by omega)]; exact l1
  · rw [hq e l6 (he 3 (by omega)) (he 6 (by omega)) (he 10 (by omega))]; exact l2
  · obtain ⟨y1, fs, y2⟩ := l4 i y hy
    have hy6 : ∀ q, q < 17 → y ≠ q := fun q hq he => by rw [he] at y2; exact kv_no6 hK hq y2
    exact ⟨hF.1 y y1, fs, by rw [hq y y1 (hy6 3 (by omega)) (hy6 6 (by omega)) (hy6 10 (by omega))]; exact y2⟩
theorem RS.of {tb : Nat → Int} {e i p : Nat} {ts : List (Int × Int × Int)} (hK : f = kv c a f) (hL : ∀ k, k < 36 → k ∈ L) (hT : TsAt c a ts e i) (h18 : T18 L f) (hk : Tk tb e ts i p) : RS tb e ts c a L f i p := by
  have hc : va_up c 65 (i : Int) = c := up_id c 65 _ hT.2.2.2.2.1
  unfold RS
  rw [hc]
  exact ⟨hK, hL, hT, h18, hk⟩
theorem e3610 : ∀ q ∈ [3, 6, 10], q < 17 := fun q hq => by simp at hq; omega
theorem e6m : ∀ q ∈ [6], q ∈ [3, 6, 10] := fun q hq => by rw [List.mem_singleton.mp hq]; decide
end FHH
theorem b_actsTold {d : Nat} {c : SF} {a : SA} {L : List Nat} {f : Nat → AC} {xs : List Int} (hd : 1 ≤ d) (hK : f = kv c a f) (hL : ∀ k, k < 36 → k ∈ L) (hA : AcS c a xs) : AM yX2_actsTold cX2_actsTold 2 (some (.array .int)) d 1 3 [.ref 3] L f (fun r L' f' => ∃ k, r = some (.ref k) ∧ RwI L' f' k xs ∧ Fo L f L' f') := by
  obtain ⟨h35, h3, hrow, -⟩ := hA
  have h3L := hL 3 (by omega)
  have h10L := hL 10 (by omega)
  have h3f : f 3 = .inr (5, ko3 c) := by rw [hK]; rfl
  have h10f : f 10 = aI 3 (a 10) := by rw [hK]; rfl
  refine AM.of (by decide +kernel) (by simp [Value.category]) (Nat.le_of_ble_eq_true rfl) false (fun h => by cases h) (fun X C => ?_)
  refine C.ic dX2_actsTold_0 ?_
  refine C.aload_n dX2_actsTold_1 rfl ?_
  refine C.getf gf_X2_38 dX2_actsTold_2 h3L h3f rfl ?_
  refine C.topI (b := (xs.length : Int)) h35 ?_
  refine C.aload_n dX2_actsTold_5 rfl ?_
  refine C.getf gf_X2_27 dX2_actsTold_6 h3L h3f rfl ?_
  refine C.alenI dX2_actsTold_9 h10L h10f (by decide) ?_
  refine C.mmin (om_wsL_law0_r16 _ (List.mem_of_getElem? (i := 1) rfl)) (by omega) (by decide) hd (by omega) (by omega) (Nat.le_of_ble_eq_true rfl) dX2_actsTold_10 ?_
  refine C.topI (b := (xs.length : Int)) (if_neg (show ¬ (((3 : Nat) : Int) < (xs.length : Int)) by omega)) ?_
  refine C.mmax (om_wsL_law0_r16 _ (List.mem_of_getElem? (i := 5) rfl)) (by decide) (by omega) hd (by omega) (by omega) (Nat.le_of_ble_eq_true rfl) dX2_actsTold_13 ?_
  refine C.topI (b := (xs.length : Int)) (by split <;> omega) ?_
  skip
  refine C.newI (t := 1) (N := xs.length) rfl (fun _ => rfl) rfl (by decide) (om_wsL_law0_r3 _ (List.mem_of_getElem? (i := 2) rfl)) rfl (by omega) dX2_actsTold_16 (by omega) (by omega) (fun q hq2 hqL => ?_)
  have hF : ∀ y, Fo L f (L ++ [q]) (va_up f q y) := fun y => Fo.new hqL
  have h3L' := (hF (aI xs.length (fun _ => 0))).1 3 h3L
  have h10L' := (hF (aI xs.length (fun _ => 0))).1 10 h10L
  have hqL2 : q ∈ L ++ [q] := List.mem_append_right _ List.mem_cons_self
  refine C.astore_n dX2_actsTold_18 (by decide) rfl ?_
  refine C.aload_n dX2_actsTold_19 rfl ?_
  refine C.getf gf_X2_27 dX2_actsTold_20 h3L' (((hF _).2 3 h3L).trans h3f) rfl ?_
  refine C.ic dX2_actsTold_23 ?_
  refine C.aload_n dX2_actsTold_24 rfl ?_
  refine C.ic dX2_actsTold_25 ?_
  refine C.aload_n dX2_actsTold_26 rfl ?_
  refine C.alenI dX2_actsTold_27 hqL2 (va_up_self _ _ _) (by decide) ?_
  refine C.copyI (t := 1) (sp := 0) (dp := 0) (n := xs.length) (g1 := a 10) (g2 := fun _ => 0) (fun _ => rfl) rfl (fun i _ => fits_int _) (om_wsL_law0_r16 _ (List.mem_of_getElem? (i := 8) rfl)) dX2_actsTold_28 h10L' (((hF _).2 10 h10L).trans h10f) hqL2 (va_up_self _ _ _) rfl rfl rfl (by omega) (by omega) (by omega) (by omega) (by decide) (by omega) (Nat.le_of_ble_eq_true rfl) ?_
  rw [up_up]
  refine C.aload_n dX2_actsTold_31 rfl ?_
  refine C.aret rfl (Or.inr ⟨_, rfl⟩) dX2_actsTold_32 (by omega) (by omega) ⟨q, rfl, ⟨hqL2, hq2, _, va_up_self _ _ _, fun j v hj => ?_⟩, hF _⟩
  have hjl := (List.getElem?_eq_some_iff.mp hj).1
  show va_cpy (a 10) (fun _ => 0) 0 0 xs.length j = v
  unfold va_cpy
  rw [if_pos (by omega), Nat.zero_add, Nat.sub_zero]
  exact hrow j v hj
