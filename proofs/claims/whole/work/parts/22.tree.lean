/-! conditions as trees: .count n is case n -/
abbrev TT : Type := Jvm.Cond
def nA : TT → Nat
  | .and a b => nA a + nA b
  | _ => 1
def nO : TT → Nat
  | .or a b => nO a + nO b
  | _ => 1
/-- the row of a condition (m: 1 within an and, 2 within an or) -/
def cd : TT → Nat → List Int
  | .count n, _ => [(n : Int)]
  | .not c, _ => 10 :: cd c 0
  | .and a b, m => (if m = 1 then [] else [1000 + ((nA a + nA b : Nat) : Int)]) ++ (cd a 1 ++ cd b 1)
  | .or a b, m => (if m = 2 then [] else [2000 + ((nO a + nO b : Nat) : Int)]) ++ (cd a 2 ++ cd b 2)
  | _, _ => []
/-- a tree of ours: cases 0 to 5 -/
def isT : TT → Prop
  | .count n => n ≤ 5
  | .not c => isT c
  | .and a b => isT a ∧ isT b
  | .or a b => isT a ∧ isT b
  | _ => False
theorem isT_ind {P : TT → Prop} (h0 : ∀ n, n ≤ 5 → P (.count n)) (h1 : ∀ c, isT c → P c → P (.not c)) (h2 : ∀ a b, isT a → isT b → P a → P b → P (.and a b)) (h3 : ∀ a b, isT a → isT b → P a → P b → P (.or a b)) : ∀ t, isT t → P t := by
  intro t
  induction t with
  | count n => intro h; exact h0 n h
  | not c ih => intro h; exact h1 c h (ih h)
  | and a b iha ihb => intro h; exact h2 a b h.1 h.2 (iha h.1) (ihb h.2)
  | or a b iha ihb => intro h; exact h3 a b h.1 h.2 (iha h.1) (ihb h.2)
  | _ => intro h; exact h.elim
/-- two parted by and, the second's ands in one row with the first -/
def apA (x : TT) : TT → TT
  | .and y z => .and (apA x y) z
  | y => .and x y
def apO (x : TT) : TT → TT
  | .or y z => .or (apO x y) z
  | y => .or x y
def fl : TT → TT
  | .not c => .not (fl c)
  | .and a b => apA (fl a) (fl b)
  | .or a b => apO (fl a) (fl b)
  | t => t
/-- without any not not -/
def ez : TT → TT
  | .not c => match c with
    | .not c2 => ez c2
    | c => .not (ez c)
  | .and a b => .and (ez a) (ez b)
  | .or a b => .or (ez a) (ez b)
  | t => t
/-- words and numbers of a condition; its nots; whether a not not is in it -/
def wd : TT → Nat
  | .count _ => 2
  | .not c => wd c + 1
  | .and a b => wd a + wd b + 1
  | .or a b => wd a + wd b + 1
  | _ => 0
def nt : TT → Nat
  | .not c => nt c + 1
  | .and a b => nt a + nt b
  | .or a b => nt a + nt b
  | _ => 0
def hn : TT → Bool
  | .not c => (match c with
    | .not _ => true
    | _ => false) || hn c
  | .and a b => hn a || hn b
  | .or a b => hn a || hn b
  | _ => false
/-- whether it is so in the cases -/
def tv (cs : Int) : TT → Bool
  | .count n => cs / 2 ^ n % 2 == 1
  | .not c => !tv cs c
  | .and a b => tv cs a && tv cs b
  | .or a b => tv cs a || tv cs b
  | _ => false
theorem nA_apA (x y : TT) : nA (apA x y) = nA x + nA y := by
  induction y with
  | and a b iha ihb => simp only [apA, nA, iha]; omega
  | _ => rfl
theorem nO_apO (x y : TT) : nO (apO x y) = nO x + nO y := by
  induction y with
  | or a b iha ihb => simp only [apO, nO, iha]; omega
  | _ => rfl
theorem cd_apA (x y : TT) (m : Nat) : cd (apA x y) m = cd (.and x y) m := by
  induction y generalizing m with
  | and a b iha ihb =>
    simp only [apA, cd, nA_apA, iha, nA]
    split <;> simp [Nat.add_assoc, cd]
  | _ => rfl
theorem cd_apO (x y : TT) (m : Nat) : cd (apO x y) m = cd (.or x y) m := by
  induction y generalizing m with
  | or a b iha ihb =>
    simp only [apO, cd, nO_apO, iha, nO]
    split <;> simp [Nat.add_assoc, cd]
  | _ => rfl
theorem nA_fl (t : TT) : nA (fl t) = nA t := by
  induction t with
  | and a b iha ihb => simp only [fl, nA_apA, nA, iha, ihb]
  | or a b iha ihb =>
    simp only [fl, nA]
    cases fl b <;> rfl
  | _ => rfl
theorem nO_fl (t : TT) : nO (fl t) = nO t := by
  induction t with
  | or a b iha ihb => simp only [fl, nO_apO, nO, iha, ihb]
  | and a b iha ihb =>
    simp only [fl, nO]
    cases fl b <;> rfl
  | _ => rfl
theorem cd_fl (t : TT) (m : Nat) : cd (fl t) m = cd t m := by
  induction t generalizing m with
  | not c ih => simp only [fl, cd, ih]
  | and a b iha ihb => simp only [fl, cd_apA, cd, nA_fl, iha, ihb]
  | or a b iha ihb => simp only [fl, cd_apO, cd, nO_fl, iha, ihb]
  | _ => rfl
theorem ez_not {c : TT} (h : ∀ c2, c ≠ .not c2) : ez (.not c) = .not (ez c) := by
  cases c <;> first | rfl | exact absurd rfl (h _)
theorem nA_ez_apA (x y : TT) : nA (ez (apA x y)) = nA (ez x) + nA (ez y) := by
  induction y with
  | and a b iha ihb => simp only [apA, ez, nA, iha]; omega
  | _ => rfl
theorem nO_ez_apO (x y : TT) : nO (ez (apO x y)) = nO (ez x) + nO (ez y) := by
  induction y with
  | or a b iha ihb => simp only [apO, ez, nO, iha]; omega
  | _ => rfl
theorem cd_ez_apA (x y : TT) (m : Nat) : cd (ez (apA x y)) m = cd (.and (ez x) (ez y)) m := by
  induction y generalizing m with
  | and a b iha ihb =>
    simp only [apA, ez, cd, nA_ez_apA, iha, nA]
    split <;> simp [Nat.add_assoc, cd]
  | _ => rfl
theorem cd_ez_apO (x y : TT) (m : Nat) : cd (ez (apO x y)) m = cd (.or (ez x) (ez y)) m := by
  induction y generalizing m with
  | or a b iha ihb =>
    simp only [apO, ez, cd, nO_ez_apO, iha, nO]
    split <;> simp [Nat.add_assoc, cd]
  | _ => rfl
theorem cd_len (t : TT) (ht : isT t) (m : Nat) : 1 ≤ (cd t m).length := by
  revert m
  refine isT_ind (P := fun t => ∀ m, 1 ≤ (cd t m).length) ?_ ?_ ?_ ?_ t ht
  · intro n _ m; simp [cd]
  · intro c _ _ m; simp [cd]
  · intro a b _ _ ha hb m
    have := ha 1
    simp only [cd, List.length_append]; omega
  · intro a b _ _ ha hb m
    have := ha 2
    simp only [cd, List.length_append]; omega
theorem cd_nn (t : TT) (ht : isT t) (m : Nat) : ∀ v ∈ cd t m, 0 ≤ v := by
  revert m
  refine isT_ind (P := fun t => ∀ m, ∀ v ∈ cd t m, 0 ≤ v) ?_ ?_ ?_ ?_ t ht
  · intro n _ m v hv; simp [cd] at hv; omega
  · intro c _ h m v hv
    simp only [cd, List.mem_cons] at hv
    rcases hv with rfl | hv
    · omega
    · exact h 0 v hv
  · intro a b _ _ ha hb m v hv
    simp only [cd, List.mem_append] at hv
    rcases hv with hv | hv | hv
    · split at hv
      · cases hv
      · simp at hv; omega
    · exact ha 1 v hv
    · exact hb 1 v hv
  · intro a b _ _ ha hb m v hv
    simp only [cd, List.mem_append] at hv
    rcases hv with hv | hv | hv
    · split at hv
      · cases hv
      · simp at hv; omega
    · exact ha 2 v hv
    · exact hb 2 v hv
theorem fl_not {c : TT} (h : isT c) : (∀ c2, c ≠ .not c2) → ∀ c2, fl c ≠ .not c2 := by
  revert h
  refine fun h => isT_ind (P := fun c => (∀ c2, c ≠ .not c2) → ∀ c2, fl c ≠ .not c2) ?_ ?_ ?_ ?_ c h
  · intro n _ _ c2 h; cases h
  · intro c _ _ h; exact absurd rfl (h c)
  · intro a b _ _ _ _ _ c2
    simp only [fl]
    cases fl b <;> (intro h; cases h)
  · intro a b _ _ _ _ _ c2
    simp only [fl]
    cases fl b <;> (intro h; cases h)
theorem cd_ez_fl (t : TT) (ht : isT t) (m : Nat) : cd (ez (fl t)) m = cd (ez t) m ∧ nA (ez (fl t)) = nA (ez t) ∧ nO (ez (fl t)) = nO (ez t) := by
  have key : ∀ t, isT t → (∀ m, cd (ez (fl t)) m = cd (ez t) m ∧ nA (ez (fl t)) = nA (ez t) ∧ nO (ez (fl t)) = nO (ez t)) ∧ ∀ c, t = .not c → ∀ m, cd (ez (fl c)) m = cd (ez c) m ∧ nA (ez (fl c)) = nA (ez c) ∧ nO (ez (fl c)) = nO (ez c) := by
    refine isT_ind (P := fun t => (∀ m, cd (ez (fl t)) m = cd (ez t) m ∧ nA (ez (fl t)) = nA (ez t) ∧ nO (ez (fl t)) = nO (ez t)) ∧ ∀ c, t = .not c → ∀ m, cd (ez (fl c)) m = cd (ez c) m ∧ nA (ez (fl c)) = nA (ez c) ∧ nO (ez (fl c)) = nO (ez c)) ?_ ?_ ?_ ?_
    · intro n _; exact ⟨fun m => ⟨rfl, rfl, rfl⟩, fun c h => by cases h⟩
    · intro c hc ih
      refine ⟨fun m => ?_, fun c' h => by cases h; exact ih.1⟩
      by_cases hq : ∀ c2, c ≠ .not c2
      · have h2 := fl_not hc hq
        show cd (ez (.not (fl c))) m = _ ∧ nA (ez (.not (fl c))) = _ ∧ nO (ez (.not (fl c))) = _
        rw [ez_not hq, ez_not h2]
        simp only [cd, nA, nO, (ih.1 0).1, and_self]
      · have : ∃ c2, c = .not c2 := by
          apply Classical.byContradiction
          intro h
          exact hq (fun c2 e => h ⟨c2, e⟩)
        obtain ⟨c2, rfl⟩ := this
        exact ih.2 c2 rfl m
    · intro a b _ _ ha hb
      refine ⟨fun m => ?_, fun c h => by cases h⟩
      have o1 : ∀ x y, nO (ez (apA x y)) = 1 := fun x y => by cases y <;> rfl
      simp only [fl, cd_ez_apA, nA_ez_apA, o1, ez, cd, nA, nO, (ha.1 1).1, (hb.1 1).1, (ha.1 1).2.1, (hb.1 1).2.1, and_self]
    · intro a b _ _ ha hb
      refine ⟨fun m => ?_, fun c h => by cases h⟩
      have o1 : ∀ x y, nA (ez (apO x y)) = 1 := fun x y => by cases y <;> rfl
      simp only [fl, cd_ez_apO, nO_ez_apO, o1, ez, cd, nA, nO, (ha.1 2).1, (hb.1 2).1, (ha.1 2).2.2, (hb.1 2).2.2, and_self]
  exact (key t ht).1 m
