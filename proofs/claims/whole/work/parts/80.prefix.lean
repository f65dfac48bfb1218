/-- the head of a condition's row -/
def hdv : TT → Int
  | .count n => n
  | .not _ => 10
  | .and a b => 1000 + ((andL (.and a b)).length : Int)
  | .or a b => 2000 + ((orL (.or a b)).length : Int)
  | _ => 0
theorem cd_pcs {t : TT} (ht : isT t) : cd t 0 = hdv t :: (pcs t).flatMap (fun x => cd x 0) ∧ ∀ x ∈ pcs t, isT x := by
  rcases isT_small ht with ⟨n, h5, rfl⟩ | ⟨c, h5, rfl⟩ | ⟨a, b, h5, h6, rfl⟩ | ⟨a, b, h5, h6, rfl⟩
  · exact ⟨rfl, fun x hx => by cases hx⟩
  · exact ⟨by simp [cd, hdv, pcs], fun x hx => by rw [List.mem_singleton.mp hx]; exact h5⟩
  · refine ⟨?_, andL_isT (t := .and a b) ⟨h5, h6⟩⟩
    show _ = _ :: (andL (.and a b)).flatMap _
    rw [← cd_andL]
    simp [cd, hdv, nA, andL_len]
  · refine ⟨?_, orL_isT (t := .or a b) ⟨h5, h6⟩⟩
    show _ = _ :: (orL (.or a b)).flatMap _
    rw [← cd_orL]
    simp [cd, hdv, nO, orL_len]
theorem hdv_eq {x y : TT} (hx : isT x) (hy : isT y) (lx : (pcs x).length < 1000) (ly : (pcs y).length < 1000) : hdv x = hdv y ↔ knd x = knd y ∧ num x = num y ∧ (pcs x).length = (pcs y).length := by
  rcases isT_small hx with ⟨n, h5, rfl⟩ | ⟨c, h5, rfl⟩ | ⟨a, b, h5, h6, rfl⟩ | ⟨a, b, h5, h6, rfl⟩ <;> rcases isT_small hy with ⟨n2, h7, rfl⟩ | ⟨c2, h7, rfl⟩ | ⟨a2, b2, h7, h8, rfl⟩ | ⟨a2, b2, h7, h8, rfl⟩ <;> simp only [pcs, List.length_nil, List.length_cons] at lx ly ⊢ <;> simp only [hdv, knd, num] <;> constructor <;> intro h <;> first | omega | (refine ⟨?_, ?_, ?_⟩ <;> first | trivial | rfl | omega) | exact ⟨rfl, rfl, by omega⟩ | exact ⟨rfl, by omega, rfl⟩ | exact ⟨rfl, rfl, rfl⟩ | rfl | (have := h.2.1; omega) | (have := h.2.2; omega)
theorem flat_pref {n : Nat} (ih : ∀ x y : TT, isT x → isT y → (cd x 0).length ≤ n → (cd y 0).length ≤ n → ∀ A B, cd x 0 ++ A = cd y 0 ++ B → cd x 0 = cd y 0 ∧ A = B) : ∀ (xs ys : List TT), xs.length = ys.length → (∀ x ∈ xs, isT x ∧ (cd x 0).length ≤ n) → (∀ y ∈ ys, isT y ∧ (cd y 0).length ≤ n) → ∀ A B, xs.flatMap (fun x => cd x 0) ++ A = ys.flatMap (fun x => cd x 0) ++ B → (xs.map (fun x => cd x 0) = ys.map (fun x => cd x 0)) ∧ A = B := by
  intro xs
  induction xs with
  | nil =>
    intro ys hl _ _ A B h
    cases ys with
    | nil => exact ⟨rfl, by simpa using h⟩
    | cons y ys => simp at hl
  | cons x xs ihx =>
    intro ys hl h1 h2 A B h
    cases ys with
    | nil => simp at hl
    | cons y ys =>
      simp only [List.flatMap_cons, List.append_assoc] at h
      have hx := h1 x List.mem_cons_self
      have hy := h2 y List.mem_cons_self
      obtain ⟨e1, e2⟩ := ih x y hx.1 hy.1 hx.2 hy.2 _ _ h
      obtain ⟨e3, e4⟩ := ihx ys (by simpa using hl) (fun z hz => h1 z (List.mem_cons_of_mem _ hz)) (fun z hz => h2 z (List.mem_cons_of_mem _ hz)) A B e2
      exact ⟨by simp only [List.map_cons, e1, e3], e4⟩
theorem mem_flat_len {xs : List TT} {x : TT} (h : x ∈ xs) : (cd x 0).length ≤ (xs.flatMap (fun x => cd x 0)).length := flatMap_mem_len h
/-- no row of a condition goes on as another's -/
theorem cd_pref : ∀ (n : Nat), n ≤ 900 → ∀ x y : TT, isT x → isT y → (cd x 0).length ≤ n → (cd y 0).length ≤ n → ∀ A B, cd x 0 ++ A = cd y 0 ++ B → cd x 0 = cd y 0 ∧ A = B := by
  intro n
  induction n with
  | zero =>
    intro _ x y hx _ lx
    have := cd_len x hx 0
    omega
  | succ n ih =>
    intro hn x y hx hy lx ly A B h
    obtain ⟨ex, tx⟩ := cd_pcs hx
    obtain ⟨ey, ty⟩ := cd_pcs hy
    rw [ex, List.length_cons] at lx
    rw [ey, List.length_cons] at ly
    have px := len_pieces tx
    have py := len_pieces ty
    rw [ex, ey, List.cons_append, List.cons_append] at h
    injection h with h1 h2
    have hl := ((hdv_eq hx hy (by omega) (by omega)).mp h1).2.2
    obtain ⟨e1, e2⟩ := flat_pref (fun x y hx hy lx ly A B h => ih (by omega) x y hx hy lx ly A B h) (pcs x) (pcs y) hl (fun z hz => ⟨tx z hz, by have := mem_flat_len hz; omega⟩) (fun z hz => ⟨ty z hz, by have := mem_flat_len hz; omega⟩) A B h2
    refine ⟨?_, e2⟩
    rw [ex, ey, h1, List.flatMap_def, List.flatMap_def, e1]
/-- two conditions are written alike: their heads, and their pieces one by one -/
theorem cd_alike {x y : TT} (hx : isT x) (hy : isT y) (lx : (cd x 0).length ≤ 900) (ly : (cd y 0).length ≤ 900) : cd x 0 = cd y 0 ↔ (knd x = knd y ∧ num x = num y ∧ (pcs x).length = (pcs y).length) ∧ (pcs x).map (fun z => cd z 0) = (pcs y).map (fun z => cd z 0) := by
  obtain ⟨ex, tx⟩ := cd_pcs hx
  obtain ⟨ey, ty⟩ := cd_pcs hy
  have lx2 := lx
  have ly2 := ly
  rw [ex, List.length_cons] at lx2
  rw [ey, List.length_cons] at ly2
  have px := len_pieces tx
  have py := len_pieces ty
  have hh := hdv_eq hx hy (by omega) (by omega)
  constructor
  · intro h
    rw [ex, ey] at h
    injection h with h1 h2
    have h3 := hh.mp h1
    refine ⟨h3, ?_⟩
    have h4 := congrArg (fun l => l ++ ([] : List Int)) h2
    exact (flat_pref (n := 900) (fun x y hx hy lx ly A B h => cd_pref 900 (by omega) x y hx hy lx ly A B h) (pcs x) (pcs y) h3.2.2 (fun z hz => ⟨tx z hz, by have := mem_flat_len hz; omega⟩) (fun z hz => ⟨ty z hz, by have := mem_flat_len hz; omega⟩) [] [] h4).1
  · intro h
    rw [ex, ey, hh.mpr h.1, List.flatMap_def, List.flatMap_def, h.2]
