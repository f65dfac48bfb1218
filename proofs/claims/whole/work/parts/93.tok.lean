/-! the things of a text, and the text -/
/-- the things from p on -/
def TTk (tb : Nat → Int) (e p : Nat) : List (Int × Int × Int) := tkF tb e (e - p) p
section TOK
variable {tb : Nat → Int} {e p : Nat}
theorem sk_gt {lo hi : Int} (h : inR tb e lo hi p = true) : p < sk tb e lo hi p := by
  rw [sk_go h]
  exact Nat.lt_of_succ_le (sk_ge tb e lo hi (p + 1)).1
theorem tkF_fuel : ∀ (n m p : Nat), e - p ≤ n → e - p ≤ m → tkF tb e n p = tkF tb e m p := by
  intro n
  induction n with
  | zero =>
    intro m p h1 h2
    cases m with
    | zero => rfl
    | succ m =>
      unfold tkF
      rw [if_pos (by omega)]
  | succ n ih =>
    intro m p h1 h2
    cases m with
    | zero =>
      unfold tkF
      rw [if_pos (by omega)]
    | succ m =>
      unfold tkF
      by_cases hp : e ≤ p
      · rw [if_pos hp, if_pos hp]
      · rw [if_neg hp, if_neg hp]
        by_cases hl : inR tb e 97 122 p = true
        · have := sk_gt hl
          have h3 : p < wend tb e p := this
          rw [if_pos hl, if_pos hl, ih m _ (by omega) (by omega)]
        · rw [if_neg hl, if_neg hl]
          by_cases hd : inR tb e 48 57 p = true
          · have h3 : p < dend tb e p := sk_gt hd
            rw [if_pos hd, if_pos hd, ih m _ (by omega) (by omega)]
          · rw [if_neg hd, if_neg hd, ih m (p + 1) (by omega) (by omega)]
theorem tk_nil (h : e ≤ p) : TTk tb e p = [] := by
  unfold TTk
  rw [show e - p = 0 by omega]
  rfl
theorem tk_word (h : inR tb e 97 122 p = true) : TTk tb e p = (wdK tb p (wend tb e p), (p : Int), -1) :: TTk tb e (wend tb e p) := by
  have hp := inR_lt h
  have h3 : p < wend tb e p := sk_gt h
  unfold TTk
  rw [show e - p = (e - p - 1) + 1 by omega]
  rw [tkF, if_neg (by omega), if_pos h]
  congr 1
  exact tkF_fuel _ _ _ (by omega) (by omega)
theorem tk_num (h0 : inR tb e 97 122 p = false) (h : inR tb e 48 57 p = true) : TTk tb e p = (17, (p : Int), vlK tb p (dend tb e p)) :: TTk tb e (dend tb e p) := by
  have hp := inR_lt h
  have h3 : p < dend tb e p := sk_gt h
  unfold TTk
  rw [show e - p = (e - p - 1) + 1 by omega]
  rw [tkF, if_neg (by omega), if_neg (by rw [h0]; decide), if_pos h]
  congr 1
  exact tkF_fuel _ _ _ (by omega) (by omega)
theorem tk_blank (hp : p < e) (h : tb p = 32) : TTk tb e p = TTk tb e (p + 1) := by
  unfold TTk
  rw [show e - p = (e - p - 1) + 1 by omega]
  rw [tkF, if_neg (by omega), if_neg (by unfold inR; rw [h]; simp), if_neg (by unfold inR; rw [h]; simp), if_pos h]
  exact tkF_fuel _ _ _ (by omega) (by omega)
theorem tk_sign (hp : p < e) (h0 : inR tb e 97 122 p = false) (h1 : inR tb e 48 57 p = false) (h : ¬ tb p = 32) : TTk tb e p = (sgK (tb p), (p : Int), -1) :: TTk tb e (p + 1) := by
  unfold TTk
  rw [show e - p = (e - p - 1) + 1 by omega]
  rw [tkF, if_neg (by omega), if_neg (by rw [h0]; decide), if_neg (by rw [h1]; decide), if_neg h]
  congr 1
theorem tk_bl : ∀ (n p : Nat), e - p = n → TTk tb e p = TTk tb e (bl tb e p) := by
  intro n
  induction n with
  | zero =>
    intro p h
    have hb := (sk_ge tb e 32 32 p).1
    rw [tk_nil (by omega), tk_nil (by unfold bl; omega)]
  | succ n ih =>
    intro p h
    cases hi : inR tb e 32 32 p with
    | false => unfold bl; rw [sk_stop hi]
    | true =>
      have := inR_lt hi
      rw [tk_blank (by omega) (by omega), ih (p + 1) (by omega)]
      unfold bl
      rw [sk_go hi]
end TOK
/-- the thing i is the one at p -/
def Tk (tb : Nat → Int) (e : Nat) (ts : List (Int × Int × Int)) (i p : Nat) : Prop := ts.drop i = TTk tb e p ∧ p ≤ e
section TOK2
variable {tb : Nat → Int} {e p i : Nat} {ts : List (Int × Int × Int)}
theorem drop_cons {t : Int × Int × Int} {us : List (Int × Int × Int)} (h : ts.drop i = t :: us) : ts[i]? = some t ∧ ts.drop (i + 1) = us := by
  constructor
  · have : (ts.drop i)[0]? = some t := by rw [h]; rfl
    rw [List.getElem?_drop] at this
    exact this
  · rw [← List.drop_drop, h]
    rfl
theorem Tk.cases (h : Tk tb e ts i p) : (bl tb e p = e ∧ ts[i]? = none) ∨ (inR tb e 97 122 (bl tb e p) = true ∧ ts[i]? = some (wdK tb (bl tb e p) (wend tb e (bl tb e p)), (bl tb e p : Int), -1) ∧ Tk tb e ts (i + 1) (wend tb e (bl tb e p))) ∨ (inR tb e 97 122 (bl tb e p) = false ∧ inR tb e 48 57 (bl tb e p) = true ∧ ts[i]? = some (17, (bl tb e p : Int), vlK tb (bl tb e p) (dend tb e (bl tb e p))) ∧ Tk tb e ts (i + 1) (dend tb e (bl tb e p))) ∨ (bl tb e p < e ∧ inR tb e 97 122 (bl tb e p) = false ∧ inR tb e 48 57 (bl tb e p) = false ∧ ¬ tb (bl tb e p) = 32 ∧ ts[i]? = some (sgK (tb (bl tb e p)), (bl tb e p : Int), -1) ∧ Tk tb e ts (i + 1) (bl tb e p + 1)) := by
  obtain ⟨h1, h2⟩ := h
  rw [tk_bl _ p rfl] at h1
  have hb : bl tb e p ≤ e := bl_le h2
  have hbe := sk_end tb e 32 32 _ p rfl
  change inR tb e 32 32 (bl tb e p) = false at hbe
  generalize bl tb e p = b at *
  by_cases he : b = e
  · refine Or.inl ⟨he, ?_⟩
    rw [tk_nil (by omega)] at h1
    have := List.drop_eq_nil_iff.mp h1
    exact List.getElem?_eq_none this
  · right
    cases hl : inR tb e 97 122 b with
    | true =>
      rw [tk_word hl] at h1
      obtain ⟨q1, q2⟩ := drop_cons h1
      exact Or.inl ⟨rfl, q1, q2, wend_le hb⟩
    | false =>
      cases hd : inR tb e 48 57 b with
      | true =>
        rw [tk_num hl hd] at h1
        obtain ⟨q1, q2⟩ := drop_cons h1
        exact Or.inr (Or.inl ⟨rfl, rfl, q1, q2, sk_le hb⟩)
      | false =>
        have h32 : ¬ tb b = 32 := fun h => by
          unfold inR at hbe
          rw [h] at hbe
          simp at hbe
          omega
        rw [tk_sign (by omega) hl hd h32] at h1
        obtain ⟨q1, q2⟩ := drop_cons h1
        exact Or.inr (Or.inr ⟨by omega, rfl, rfl, h32, q1, q2, by omega⟩)
theorem Tk.bl (h : Tk tb e ts i p) : Tk tb e ts i (bl tb e p) := ⟨by rw [h.1]; exact tk_bl _ p rfl, bl_le h.2⟩
theorem tk_beg (h : Tk tb e ts i p) : tkBeg ts i e = (bl tb e p : Int) := by
  unfold tkBeg
  rcases h.cases with ⟨h1, h2⟩ | ⟨-, h2, -⟩ | ⟨-, -, h2, -⟩ | ⟨-, -, -, -, h2, -⟩
  · rw [h2, h1]
  · rw [h2]
  · rw [h2]
  · rw [h2]
theorem isW_eq {b w : Nat} {zs : List Int} (h : isW tb b w zs = true) : zs = (List.range (w - b)).map (fun k => tb (b + k)) := by
  unfold isW eqB at h
  rw [Bool.and_eq_true, decide_eq_true_eq, List.all_eq_true] at h
  obtain ⟨h1, h2⟩ := h
  apply List.ext_getElem
  · rw [List.length_map, List.length_range]; omega
  · intro k hk1 hk2
    have h3 := h2 k (List.mem_range.mpr hk1)
    rw [beq_iff_eq, List.getD_eq_getElem?_getD, List.getElem?_eq_getElem hk1] at h3
    rw [List.getElem_map, List.getElem_range]
    exact h3.symm
theorem zW_inj : ∀ a b : Fin 16, zW.getD a.val [] = zW.getD b.val [] → a = b := by decide
theorem isW_one {b w k1 k2 : Nat} (h1 : k1 < 16) (h2 : k2 < 16) (q1 : isW tb b w (zW.getD k1 []) = true) (q2 : isW tb b w (zW.getD k2 []) = true) : k1 = k2 := by
  have := zW_inj ⟨k1, h1⟩ ⟨k2, h2⟩ ((isW_eq q1).trans (isW_eq q2).symm)
  exact congrArg Fin.val this
theorem wkF_is {b we w : Nat} (hw : w < 16) : ∀ (n k : Nat), k + n = 16 → k ≤ w → decide (wkF tb b we n k = (w : Int)) = isW tb b we (zW.getD w []) := by
  intro n
  induction n with
  | zero => intro k hk hkw; omega
  | succ n ih =>
    intro k hk hkw
    unfold wkF
    cases hq : isW tb b we (zW.getD k []) with
    | true =>
      rw [if_pos rfl]
      by_cases hkw2 : k = w
      · subst hkw2; rw [hq]; simp
      · rw [decide_eq_false (by omega)]
        cases hq2 : isW tb b we (zW.getD w []) with
        | false => rfl
        | true => exact absurd (isW_one (by omega) hw hq hq2) hkw2
    | false =>
      rw [if_neg (by decide)]
      by_cases hkw2 : k = w
      · subst hkw2
        rw [hq]
        have : ∀ (n k2 : Nat), k < k2 → wkF tb b we n k2 ≠ (k : Int) := by
          intro n
          induction n with
          | zero => intro k2 _ h; unfold wkF at h; omega
          | succ n ihn =>
            intro k2 hk2 h
            unfold wkF at h
            split at h
            · omega
            · exact ihn (k2 + 1) (by omega) h
        exact decide_eq_false (this n (k + 1) (by omega))
      · exact ih (k + 1) (by omega) (by omega)
theorem tk_is {w : Nat} (hw : w < 16) (h : Tk tb e ts i p) : tkIs ts i w = psP tb e p (zW.getD w []) ∧ (psP tb e p (zW.getD w []) = true → Tk tb e ts (i + 1) (wend tb e (bl tb e p))) := by
  have hz : ∀ w : Fin 16, 0 < (zW.getD w.val []).length := by decide
  have hz1 := hz ⟨w, hw⟩
  have hno : inR tb e 97 122 (bl tb e p) = false → psP tb e p (zW.getD w []) = false := fun hl => by
    unfold psP
    cases hq : isW tb (bl tb e p) (wend tb e (bl tb e p)) (zW.getD w []) with
    | false => rfl
    | true =>
      have := psP_len (show psP tb e p (zW.getD w []) = true from hq)
      have h2 : wend tb e (bl tb e p) = bl tb e p := sk_stop hl
      change 0 < (zW.getD w []).length at hz1
      omega
  unfold tkIs
  rcases h.cases with ⟨h1, h2⟩ | ⟨hl, h2, h3⟩ | ⟨hl, hd, h2, h3⟩ | ⟨hlt, hl, hd, h32, h2, h3⟩
  · have hl : inR tb e 97 122 (bl tb e p) = false := by
      unfold inR
      rw [h1]
      simp
    rw [h2, hno hl]
    exact ⟨rfl, fun h => by cases h⟩
  · rw [h2]
    exact ⟨wkF_is hw 16 0 rfl (by omega), fun _ => h3⟩
  · rw [h2, hno hl]
    exact ⟨decide_eq_false (by omega), fun h => by cases h⟩
  · rw [h2, hno hl]
    refine ⟨decide_eq_false (fun hs => ?_), fun h => by cases h⟩
    change sgK (tb (bl tb e p)) = (w : Int) at hs
    unfold sgK at hs
    repeat' split at hs
    all_goals omega
theorem tk_sg {c : Int} {w : Nat} (hc : (c = 40 ∧ w = 18) ∨ (c = 41 ∧ w = 19) ∨ (c = 44 ∧ w = 20) ∨ (c = 59 ∧ w = 21)) (h : Tk tb e ts i p) : tkIs ts i w = sgP tb e p c ∧ (sgP tb e p c = true → Tk tb e ts (i + 1) (bl tb e p + 1)) := by
  unfold tkIs sgP
  rcases h.cases with ⟨h1, h2⟩ | ⟨hl, h2, h3⟩ | ⟨hl, hd, h2, h3⟩ | ⟨hlt, hl, hd, h32, h2, h3⟩
  · rw [h2]
    have : inR tb e c c (bl tb e p) = false := by unfold inR; rw [h1]; simp
    rw [this]
    exact ⟨rfl, fun h => by cases h⟩
  · have hb := inR_lt hl
    have hno : inR tb e c c (bl tb e p) = false := by
      cases hq : inR tb e c c (bl tb e p) with
      | false => rfl
      | true => have := inR_lt hq; omega
    have hr := wkF_rng tb (bl tb e p) (wend tb e (bl tb e p)) 16 0 rfl
    have h16 : ∀ (n k : Nat), k + n = 16 → wkF tb (bl tb e p) (wend tb e (bl tb e p)) n k < 16 ∨ wkF tb (bl tb e p) (wend tb e (bl tb e p)) n k = 23 := by
      intro n
      induction n with
      | zero => intro k _; exact Or.inr rfl
      | succ n ih =>
        intro k hk
        unfold wkF
        split
        · left; omega
        · exact ih (k + 1) (by omega)
    have := h16 16 0 rfl
    rw [h2, hno]
    refine ⟨decide_eq_false (fun hs => ?_), fun h => by cases h⟩
    change wkF tb (bl tb e p) (wend tb e (bl tb e p)) 16 0 = (w : Int) at hs
    omega
  · have hb := inR_lt hd
    have hno : inR tb e c c (bl tb e p) = false := by
      cases hq : inR tb e c c (bl tb e p) with
      | false => rfl
      | true => have := inR_lt hq; omega
    rw [h2, hno]
    exact ⟨decide_eq_false (fun hs => by change (17 : Int) = w at hs; omega), fun h => by cases h⟩
  · rw [h2]
    by_cases hq : tb (bl tb e p) = c
    · have hy : inR tb e c c (bl tb e p) = true := by unfold inR; rw [hq, decide_eq_true hlt]; simp
      rw [hy]
      refine ⟨decide_eq_true ?_, fun _ => h3⟩
      show sgK (tb (bl tb e p)) = w
      rw [hq]
      rcases hc with ⟨rfl, rfl⟩ | ⟨rfl, rfl⟩ | ⟨rfl, rfl⟩ | ⟨rfl, rfl⟩ <;> rfl
    · have hno : inR tb e c c (bl tb e p) = false := by
        cases hq2 : inR tb e c c (bl tb e p) with
        | false => rfl
        | true => have := inR_lt hq2; omega
      rw [hno]
      refine ⟨decide_eq_false (fun hs => hq ?_), fun h => by cases h⟩
      change sgK (tb (bl tb e p)) = (w : Int) at hs
      unfold sgK at hs
      repeat' split at hs
      all_goals omega
theorem tk_nm {lo hi : Int} (hlo : 0 ≤ lo) (h : Tk tb e ts i p) : tkNum ts i lo hi = nmV tb e (bl tb e p) lo hi ∧ (¬ nmV tb e (bl tb e p) lo hi < 0 → Tk tb e ts (i + 1) (dend tb e (bl tb e p))) := by
  have hno : inR tb e 48 57 (bl tb e p) = false → nmV tb e (bl tb e p) lo hi = -1 := fun hd => by
    unfold nmV
    rw [if_pos (Or.inl (show dend tb e (bl tb e p) = bl tb e p from sk_stop hd))]
  unfold tkNum tkVal
  rcases h.cases with ⟨h1, h2⟩ | ⟨hl, h2, h3⟩ | ⟨hl, hd, h2, h3⟩ | ⟨hlt, hl, hd, h32, h2, h3⟩
  · have hd : inR tb e 48 57 (bl tb e p) = false := by
      unfold inR
      rw [h1]
      simp
    rw [h2, hno hd]
    refine ⟨?_, fun h => absurd (show (-1 : Int) < 0 by decide) h⟩
    show (if (-1 : Int) < lo ∨ hi < -1 then (-1 : Int) else -1) = -1
    split <;> rfl
  · have hb := inR_lt hl
    have hd : inR tb e 48 57 (bl tb e p) = false := by
      cases hq : inR tb e 48 57 (bl tb e p) with
      | false => rfl
      | true => have := inR_lt hq; omega
    rw [h2, hno hd]
    refine ⟨?_, fun h => absurd (show (-1 : Int) < 0 by decide) h⟩
    show (if (-1 : Int) < lo ∨ hi < -1 then (-1 : Int) else -1) = -1
    split <;> rfl
  · have hgt : bl tb e p < dend tb e (bl tb e p) := sk_gt hd
    rw [h2]
    refine ⟨?_, fun _ => h3⟩
    show (if vlK tb (bl tb e p) (dend tb e (bl tb e p)) < lo ∨ hi < vlK tb (bl tb e p) (dend tb e (bl tb e p)) then (-1 : Int) else vlK tb (bl tb e p) (dend tb e (bl tb e p))) = _
    unfold vlK nmV
    by_cases h3' : bl tb e p + 3 < dend tb e (bl tb e p)
    · rw [if_pos h3', if_pos (Or.inr (Or.inl h3'))]
      split <;> rfl
    · rw [if_neg h3']
      by_cases hq : nvF tb (bl tb e p) (dend tb e (bl tb e p) - bl tb e p) < lo ∨ hi < nvF tb (bl tb e p) (dend tb e (bl tb e p) - bl tb e p)
      · rw [if_pos hq, if_pos (Or.inr (Or.inr hq))]
      · rw [if_neg hq, if_neg (by omega)]
  · rw [h2, hno hd]
    refine ⟨?_, fun h => absurd (show (-1 : Int) < 0 by decide) h⟩
    show (if (-1 : Int) < lo ∨ hi < -1 then (-1 : Int) else -1) = -1
    split <;> rfl
theorem tk_end (h : Tk tb e ts i p) : tkSee ts i 22 = decide (bl tb e p = e) := by
  unfold tkSee
  rcases h.cases with ⟨h1, h2⟩ | ⟨hl, h2, h3⟩ | ⟨hl, hd, h2, h3⟩ | ⟨hlt, hl, hd, h32, h2, h3⟩
  · rw [h2, decide_eq_true h1]; rfl
  · have hb := inR_lt hl
    have h16 : ∀ (n k : Nat), k + n = 16 → wkF tb (bl tb e p) (wend tb e (bl tb e p)) n k < 16 ∨ wkF tb (bl tb e p) (wend tb e (bl tb e p)) n k = 23 := by
      intro n
      induction n with
      | zero => intro k _; exact Or.inr rfl
      | succ n ih =>
        intro k hk
        unfold wkF
        split
        · left; omega
        · exact ih (k + 1) (by omega)
    have := h16 16 0 rfl
    rw [h2, decide_eq_false (show ¬ bl tb e p = e by omega)]
    exact decide_eq_false (fun hs => by change wkF tb (bl tb e p) (wend tb e (bl tb e p)) 16 0 = (22 : Int) at hs; omega)
  · have hb := inR_lt hd
    rw [h2, decide_eq_false (show ¬ bl tb e p = e by omega)]
    rfl
  · rw [h2, decide_eq_false (show ¬ bl tb e p = e by omega)]
    refine decide_eq_false (fun hs => ?_)
    change sgK (tb (bl tb e p)) = (22 : Int) at hs
    unfold sgK at hs
    repeat' split at hs
    all_goals omega
end TOK2
