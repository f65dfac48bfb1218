theorem ez_id (t : TT) (ht : isT t) : hn t = false → ez t = t := by
  refine isT_ind (P := fun t => hn t = false → ez t = t) ?_ ?_ ?_ ?_ t ht
  · intro n _ _; rfl
  · intro c hc ih h
    have h2 : hn c = false := by
      cases c <;> simp_all [hn]
    have h3 : ∀ c2, c ≠ .not c2 := fun c2 e => by
      subst e
      simp [hn] at h
    rw [ez_not h3, ih h2]
  · intro a b _ _ ha hb h
    simp only [hn, Bool.or_eq_false_iff] at h
    simp only [ez, ha h.1, hb h.2]
  · intro a b _ _ ha hb h
    simp only [hn, Bool.or_eq_false_iff] at h
    simp only [ez, ha h.1, hb h.2]
/-- cells and slots that easing takes -/
def kc : TT → Nat
  | .not c => kc c + 2
  | .and a b => kc a + kc b + 4
  | .or a b => kc a + kc b + 4
  | _ => 0
def ks (N : Nat) : TT → Nat
  | .not c => ks N c + 8
  | .and a b => ks N a + ks N b + (N + 9)
  | .or a b => ks N a + ks N b + (N + 9)
  | _ => 0
/-- the cases that a condition names -/
def lvs : TT → Nat
  | .not c => lvs c
  | .and a b => lvs a + lvs b
  | .or a b => lvs a + lvs b
  | _ => 1
theorem andL_lvs (t : TT) : (andL t).length ≤ lvs t ∧ ((andL t).map lvs).sum = lvs t := by
  have pos : ∀ t : TT, 1 ≤ lvs t := by
    intro t
    induction t with
    | and a b ha hb => simp only [lvs]; omega
    | or a b ha hb => simp only [lvs]; omega
    | not c ih => exact ih
    | _ => exact Nat.le_refl _
  induction t with
  | and a b ha hb =>
    simp only [andL, List.length_append, List.map_append, List.sum_append, lvs]
    omega
  | _ => simp only [andL, List.length_cons, List.length_nil, List.map_cons, List.map_nil, List.sum_cons, List.sum_nil]; exact ⟨pos _, by omega⟩
theorem orL_lvs (t : TT) : (orL t).length ≤ lvs t ∧ ((orL t).map lvs).sum = lvs t := by
  have pos : ∀ t : TT, 1 ≤ lvs t := by
    intro t
    induction t with
    | and a b ha hb => simp only [lvs]; omega
    | or a b ha hb => simp only [lvs]; omega
    | not c ih => exact ih
    | _ => exact Nat.le_refl _
  induction t with
  | or a b ha hb =>
    simp only [orL, List.length_append, List.map_append, List.sum_append, lvs]
    omega
  | _ => simp only [orL, List.length_cons, List.length_nil, List.map_cons, List.map_nil, List.sum_cons, List.sum_nil]; exact ⟨pos _, by omega⟩
theorem andL_kc (t : TT) : ((andL t).map kc).sum + 4 * ((andL t).length - 1) = kc t ∧ 1 ≤ (andL t).length := by
  induction t with
  | and a b ha hb =>
    simp only [andL, List.length_append, List.map_append, List.sum_append, kc]
    omega
  | _ => simp [andL]
theorem orL_kc (t : TT) : ((orL t).map kc).sum + 4 * ((orL t).length - 1) = kc t ∧ 1 ≤ (orL t).length := by
  induction t with
  | or a b ha hb =>
    simp only [orL, List.length_append, List.map_append, List.sum_append, kc]
    omega
  | _ => simp [orL]
theorem andL_ks (N : Nat) (t : TT) : ((andL t).map (ks N)).sum + (N + 9) * ((andL t).length - 1) = ks N t := by
  induction t with
  | and a b ha hb =>
    have h1 := (andL_kc a).2
    have h2 := (andL_kc b).2
    simp only [andL, List.length_append, List.map_append, List.sum_append, ks]
    obtain ⟨x, hx⟩ : ∃ x, (andL a).length = x + 1 := ⟨(andL a).length - 1, by omega⟩
    obtain ⟨y, hy⟩ : ∃ y, (andL b).length = y + 1 := ⟨(andL b).length - 1, by omega⟩
    rw [hx] at ha ⊢
    rw [hy] at hb ⊢
    rw [show x + 1 + (y + 1) - 1 = x + y + 1 by omega]
    simp only [Nat.add_sub_cancel, Nat.mul_add, Nat.mul_one] at ha hb ⊢
    omega
  | _ => simp [andL]
theorem orL_ks (N : Nat) (t : TT) : ((orL t).map (ks N)).sum + (N + 9) * ((orL t).length - 1) = ks N t := by
  induction t with
  | or a b ha hb =>
    have h1 := (orL_kc a).2
    have h2 := (orL_kc b).2
    simp only [orL, List.length_append, List.map_append, List.sum_append, ks]
    obtain ⟨x, hx⟩ : ∃ x, (orL a).length = x + 1 := ⟨(orL a).length - 1, by omega⟩
    obtain ⟨y, hy⟩ : ∃ y, (orL b).length = y + 1 := ⟨(orL b).length - 1, by omega⟩
    rw [hx] at ha ⊢
    rw [hy] at hb ⊢
    rw [show x + 1 + (y + 1) - 1 = x + y + 1 by omega]
    simp only [Nat.add_sub_cancel, Nat.mul_add, Nat.mul_one] at ha hb ⊢
    omega
  | _ => simp [orL]
/-- what a Cond object shows of a tree is blind to how its row is nested -/
theorem CO_and {a b a2 b2 : TT} (h : andL (.and a b) = andL (.and a2 b2)) (p : Nat) : CO (.and a b) p = CO (.and a2 b2) p := by
  rw [← CF_and, ← CF_and, h]
theorem CO_or {a b a2 b2 : TT} (h : orL (.or a b) = orL (.or a2 b2)) (p : Nat) : CO (.or a b) p = CO (.or a2 b2) p := by
  rw [← CF_or, ← CF_or, h]
theorem CAt.nest {L : List Nat} {f : Nat → AC} {D k : Nat} {t t2 : TT} (h : CAt L f D k t) (h1 : ∀ p, CO t p = CO t2 p) (h2 : pcs t = pcs t2) : CAt L f D k t2 := by
  cases D with
  | zero => exact h.elim
  | succ D =>
    obtain ⟨h12, p, gr, h3, h45, h6, h7⟩ := h
    rw [h2] at h6 h7
    exact ⟨h12, p, gr, by rw [← h1]; exact h3, h45, h6, h7⟩
/-- the sort of row, and its mode of easing -/
theorem andL_ez (t : TT) : andL (ez t) = (andL t).flatMap (fun x => andL (ez x)) := by
  induction t with
  | and a b ha hb => simp only [ez, andL, List.flatMap_append, ha, hb]
  | _ => simp [andL]
theorem orL_ez (t : TT) : orL (ez t) = (orL t).flatMap (fun x => orL (ez x)) := by
  induction t with
  | or a b ha hb => simp only [ez, orL, List.flatMap_append, ha, hb]
  | _ => simp [orL]
theorem jL_ez (kd : Int) (t : TT) : jL kd (ez t) = (jL kd t).flatMap (fun x => jL kd (ez x)) := by
  unfold jL
  split
  · exact andL_ez t
  · exact orL_ez t
theorem jL_fold (kd : Int) (hkd : kd = 0 ∨ kd = 1) : ∀ (xs : List TT) (t : TT), jL kd (xs.foldl (mkJ kd) t) = jL kd t ++ xs.flatMap (jL kd) := by
  intro xs
  induction xs with
  | nil => intro t; simp
  | cons x xs ih =>
    intro t
    rw [List.foldl_cons, ih, List.flatMap_cons, ← List.append_assoc]
    congr 1
    rcases hkd with rfl | rfl <;> rfl
