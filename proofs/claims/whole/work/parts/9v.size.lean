/-! sizes of sentences: what a letter and its turns may need -/
def lvO : Option TT → Nat
  | none => 0
  | some t => lvs t
def uO (u : Option TT) : Nat := if (cdO u).length = 0 then 0 else 2
def qS (x : Sen) : Nat := (cdO x.2.2.1).length + (cdO x.2.2.2).length + uO x.2.2.2
def lvS (x : Sen) : Nat := lvO x.2.2.1 + lvO x.2.2.2
def mS (x : Sen) : Nat := x.1.1.length * (80 + 14 * qS x)
def isTO : Option TT → Prop
  | none => True
  | some t => isT t
def Ok1 (x : Sen) : Prop := SOk x ∧ isTO x.2.2.1 ∧ isTO x.2.2.2
theorem cd_nd (t : TT) (ht : isT t) (m : Nat) : (cd t m).length ≤ nd t ∧ lvs t + nt t ≤ (cd t m).length := by
  revert m
  refine isT_ind (P := fun t => ∀ m, (cd t m).length ≤ nd t ∧ lvs t + nt t ≤ (cd t m).length) ?_ ?_ ?_ ?_ t ht
  · intro n hn m
    exact ⟨Nat.le_refl _, Nat.le_refl _⟩
  · intro c _ ih m
    have := ih 0
    simp only [cd, nd, lvs, nt, List.length_cons]
    omega
  · intro a b _ _ ha hb m
    have h1 := ha 1
    have h2 := hb 1
    simp only [cd, nd, lvs, nt, List.length_append]
    split
    · simp only [List.length_nil]
      omega
    · simp only [List.length_cons, List.length_nil]
      omega
  · intro a b _ _ ha hb m
    have h1 := ha 2
    have h2 := hb 2
    simp only [cd, nd, lvs, nt, List.length_append]
    split
    · simp only [List.length_nil]
      omega
    · simp only [List.length_cons, List.length_nil]
      omega
theorem cd_ez_le (t : TT) (ht : isT t) (m : Nat) : (cd (ez t) m).length ≤ (cd t m).length := by
  have key : ∀ t, isT t → (∀ m, (cd (ez t) m).length ≤ (cd t m).length) ∧ ∀ c, t = .not c → ∀ m, (cd (ez c) m).length ≤ (cd c m).length := by
    refine isT_ind (P := fun t => (∀ m, (cd (ez t) m).length ≤ (cd t m).length) ∧ ∀ c, t = .not c → ∀ m, (cd (ez c) m).length ≤ (cd c m).length) ?_ ?_ ?_ ?_
    · intro n hn
      exact ⟨fun m => Nat.le_refl _, fun c h => by cases h⟩
    · intro c hc ih
      refine ⟨fun m => ?_, fun c' h => by cases h; exact ih.1⟩
      by_cases hq : ∀ c2, c ≠ .not c2
      · rw [ez_not hq]
        have := ih.1 0
        simp only [cd, List.length_cons]
        omega
      · have : ∃ c2, c = .not c2 := by
          apply Classical.byContradiction
          intro h
          exact hq (fun c2 e => h ⟨c2, e⟩)
        obtain ⟨c2, rfl⟩ := this
        have h1 := ih.2 c2 rfl m
        have h2 := cd_len01 c2 m
        show (cd (ez c2) m).length ≤ _
        simp only [cd, List.length_cons]
        omega
    · intro a b _ _ ha hb
      refine ⟨fun m => ?_, fun c h => by cases h⟩
      have h1 := ha.1 1
      have h2 := hb.1 1
      simp only [ez, cd, List.length_append]
      split
      · omega
      · simp only [List.length_cons, List.length_nil]
        omega
    · intro a b _ _ ha hb
      refine ⟨fun m => ?_, fun c h => by cases h⟩
      have h1 := ha.1 2
      have h2 := hb.1 2
      simp only [ez, cd, List.length_append]
      split
      · omega
      · simp only [List.length_cons, List.length_nil]
        omega
  exact (key t ht).1 m
theorem kc_le (t : TT) (ht : isT t) : kc t + 4 ≤ 4 * lvs t + 2 * nt t ∧ ks 80 t + 89 ≤ 89 * lvs t + 8 * nt t := by
  refine isT_ind (P := fun t => kc t + 4 ≤ 4 * lvs t + 2 * nt t ∧ ks 80 t + 89 ≤ 89 * lvs t + 8 * nt t) ?_ ?_ ?_ ?_ t ht
  · intro n hn
    simp only [kc, ks, lvs, nt]
    omega
  · intro c _ ih
    simp only [kc, ks, lvs, nt]
    omega
  · intro a b _ _ ha hb
    simp only [kc, ks, lvs, nt]
    omega
  · intro a b _ _ ha hb
    simp only [kc, ks, lvs, nt]
    omega
theorem sp_le1 (b : Bool) : (sp b).length ≤ 1 := by cases b <;> decide
theorem wt_le (t : TT) (ht : isT t) (m : Nat) (b : Bool) : (wt t m b).length + 7 ≤ 14 * lvs t + 4 * nt t := by
  revert m b
  refine isT_ind (P := fun t => ∀ m b, (wt t m b).length + 7 ≤ 14 * lvs t + 4 * nt t) ?_ ?_ ?_ ?_ t ht
  · intro n hn m b
    have := sp_le1 b
    simp only [wt, lvs, nt, List.length_append, List.length_cons, List.length_nil]
    omega
  · intro c _ ih m b
    have h1 := sp_le1 b
    have h2 := ih 3 true
    simp only [wt, lvs, nt, List.length_append, List.length_cons, List.length_nil]
    omega
  · intro a c _ _ ha hb m b
    have h1 := sp_le1 b
    have h2 := ha 1 false
    have h3 := hb 1 true
    have h4 := ha 1 b
    simp only [wt, lvs, nt]
    split
    · simp only [List.length_append, List.length_cons, List.length_nil]
      omega
    · simp only [List.length_append, List.length_cons, List.length_nil]
      omega
  · intro a c _ _ ha hb m b
    have h1 := sp_le1 b
    have h2 := ha 2 false
    have h3 := hb 2 true
    have h4 := ha 2 b
    simp only [wt, lvs, nt]
    split
    · simp only [List.length_append, List.length_cons, List.length_nil]
      omega
    · simp only [List.length_append, List.length_cons, List.length_nil]
      omega
theorem dgL_le (v : Int) : (dgL v).length ≤ 3 := by
  unfold dgL
  split
  · exact Nat.le_refl _
  · split
    · exact Nat.le_succ _
    · exact Nat.le_of_ble_eq_true rfl
theorem acR_le (xs : List Int) : (acR xs).length ≤ 12 * xs.length := by
  induction xs with
  | nil => exact Nat.le_refl _
  | cons v t ih =>
    have h1 := dgL_le v
    unfold acR at ih ⊢
    simp only [List.flatMap_cons, List.length_append, List.length_cons, List.length_nil]
    omega
theorem acT_le (b : Bool) (xs : List Int) (h : xs.length ≤ 3) : (acT b xs).length ≤ 32 := by
  cases xs with
  | nil => exact Nat.zero_le _
  | cons v t =>
    have h1 := dgL_le v
    have h2 := acR_le t
    have h3 := sp_le1 b
    simp only [acT, List.length_append, List.length_cons, List.length_nil] at h ⊢
    omega
theorem moT_le (v : Int) : (moT v).length ≤ 8 := by
  unfold moT
  split <;> split <;> decide
theorem whT_le (v : Int) : (whT v).length ≤ 4 := by
  unfold whT
  split
  · decide
  · split <;> decide
theorem bdT_le (f : Bool) (b : BD) (h : b.1.length ≤ 3) : (bdT f b).length ≤ 57 := by
  have h1 := acT_le f b.1 h
  have h2 := acT_le true b.1 h
  have h3 := moT_le b.2.2.1
  have h4 := whT_le b.2.1
  have h5 := sp_le1 f
  have h6 := sp_le1 true
  unfold bdT
  split
  · simp only [List.length_append]
    omega
  · split
    · simp only [List.length_append, List.length_cons, List.length_nil]
      omega
    · simp only [List.length_append, List.length_cons, List.length_nil]
      omega
theorem ifT_le (f : Bool) (w : Option TT) (h : isTO w) : (ifT f w).length ≤ 4 + 14 * (cdO w).length := by
  cases w with
  | none => exact Nat.zero_le _
  | some t =>
    have h1 := wt_le t h 0 true
    have h2 := (cd_nd t h 0).2
    have h3 := sp_le1 f
    simp only [ifT, cdO, List.length_append, List.length_cons, List.length_nil]
    omega
theorem unT_le (w : Option TT) (h : isTO w) : (unT w).length ≤ 7 + 14 * (cdO w).length := by
  cases w with
  | none => exact Nat.zero_le _
  | some t =>
    have h1 := wt_le t h 0 true
    have h2 := (cd_nd t h 0).2
    have h3 := sp_le1 true
    simp only [unT, cdO, List.length_append, List.length_cons, List.length_nil]
    omega
theorem wiT_le (v : Int) : (wiT v).length ≤ 11 := by
  have h1 := dgL_le v
  have h3 := sp_le1 true
  unfold wiT
  split
  · exact Nat.zero_le _
  · simp only [List.length_append, List.length_cons, List.length_nil]
    omega
theorem snT_le (b : Bool) {x : Sen} (h : Ok1 x) : (snT b x).length + 1 ≤ 80 + 14 * qS x := by
  have h1 := ifT_le b x.2.2.1 h.2.1
  have h2 := bdT_le (b || isS x.2.2.1) x.1 h.1.1.1.1
  have h3 := unT_le x.2.2.2 h.2.2
  have h4 := wiT_le x.2.1
  unfold snT qS
  simp only [List.length_append]
  omega
theorem mS_ge {x : Sen} (h : Ok1 x) : 80 + 14 * qS x ≤ mS x := Nat.le_mul_of_pos_left _ h.1.1.1.2.1
theorem ltR_le : ∀ (ys : List Sen), (∀ y ∈ ys, Ok1 y) → (ltR ys).length ≤ (ys.map mS).sum := by
  intro ys
  induction ys with
  | nil => intro _; exact Nat.le_refl _
  | cons y t ih =>
    intro h
    have h1 := ih (fun z hz => h z (List.mem_cons_of_mem _ hz))
    have h2 := snT_le true (h y List.mem_cons_self)
    have h3 := mS_ge (h y List.mem_cons_self)
    unfold ltR at h1 ⊢
    simp only [List.flatMap_cons, List.length_append, List.length_cons, List.map_cons, List.sum_cons]
    omega
theorem ltT_le {ys : List Sen} (h : ∀ y ∈ ys, Ok1 y) : (ltT ys).length ≤ (ys.map mS).sum := by
  cases ys with
  | nil => exact Nat.le_refl _
  | cons y t =>
    have h1 := ltR_le t (fun z hz => h z (List.mem_cons_of_mem _ hz))
    have h2 := snT_le false (h y List.mem_cons_self)
    have h3 := mS_ge (h y List.mem_cons_self)
    simp only [ltT, List.length_append, List.map_cons, List.sum_cons]
    omega
/-! easing -/
theorem isT_ezT {w u : Option TT} (hw : isTO w) (hu : isTO u) : isT (ezT w u) := by
  cases w with
  | none =>
    cases u with
    | none => exact Nat.zero_le _
    | some b => exact hu
  | some a =>
    cases u with
    | none => exact hw
    | some b => exact ⟨hw, hu⟩
theorem ezT_le {w u : Option TT} (hw : isTO w) (hu : isTO u) : lvs (ezT w u) ≤ lvO w + lvO u + 1 ∧ nt (ezT w u) ≤ (cdO w).length + (cdO u).length + uO u ∧ (lvs (ezT w u) ≤ lvO w + lvO u ∨ lvs (ezT w u) ≤ 1) := by
  have hn : ∀ b : TT, isT b → uO (some b) = 2 := fun b hb => if_neg (by have := cd_len b hb 0; show ¬ (cd b 0).length = 0; omega)
  cases w with
  | none =>
    cases u with
    | none => exact ⟨Nat.le_refl _, Nat.zero_le _, Or.inr (Nat.le_refl _)⟩
    | some b =>
      have h1 := (cd_nd b hu 0).2
      rw [hn b hu]
      simp only [ezT, lvs, lvO, nt, cdO, List.length_nil]
      omega
  | some a =>
    have h0 := (cd_nd a hw 0).2
    cases u with
    | none =>
      simp only [ezT, lvO, cdO, List.length_nil, uO]
      omega
    | some b =>
      have h1 := (cd_nd b hu 0).2
      rw [hn b hu]
      simp only [ezT, lvs, lvO, nt, cdO]
      omega
theorem ezO_le {w u : Option TT} (hw : isTO w) (hu : isTO u) : (cdO (ezO w u)).length ≤ (cdO w).length + (cdO u).length + uO u ∧ lvO (ezO w u) = lvO w + lvO u ∧ isTO (ezO w u) := by
  have hn : ∀ b : TT, isT b → uO (some b) = 2 := fun b hb => if_neg (by have := cd_len b hb 0; show ¬ (cd b 0).length = 0; omega)
  cases w with
  | none =>
    cases u with
    | none => exact ⟨Nat.zero_le _, rfl, trivial⟩
    | some b =>
      have h1 := cd_ez_le (.not b) hu 0
      rw [hn b hu]
      refine ⟨?_, ?_, isT_ez (.not b) hu⟩
      · simp only [ezO, cdO, List.length_nil] at h1 ⊢
        simp only [cd, List.length_cons] at h1
        omega
      · show lvs (ez (.not b)) = 0 + lvs b
        rw [lvs_ez (.not b) hu]
        exact (Nat.zero_add _).symm
  | some a =>
    cases u with
    | none =>
      have h1 := cd_ez_le a hw 0
      refine ⟨?_, lvs_ez a hw, isT_ez a hw⟩
      simp only [ezO, cdO, List.length_nil]
      omega
    | some b =>
      have h1 := cd_ez_le (.and a (.not b)) ⟨hw, hu⟩ 0
      have h2 := cd_len01 a 1
      rw [hn b hu]
      refine ⟨?_, lvs_ez (.and a (.not b)) ⟨hw, hu⟩, isT_ez (.and a (.not b)) ⟨hw, hu⟩⟩
      simp only [ezO, cdO] at h1 ⊢
      simp only [cd, List.length_cons, List.length_append, if_neg (show ¬ (0 : Nat) = 1 by decide), List.length_nil] at h1
      omega
theorem ezS_le {x : Sen} (h : Ok1 x) : qS (ezS x) ≤ qS x ∧ lvS (ezS x) = lvS x ∧ mS (ezS x) ≤ mS x ∧ (cdO (ezO x.2.2.1 x.2.2.2)).length ≤ qS x := by
  obtain ⟨h1, h2, -⟩ := ezO_le h.2.1 h.2.2
  have hq : qS (ezS x) ≤ qS x := by
    show (cdO (ezO x.2.2.1 x.2.2.2)).length + 0 + 0 ≤ _
    exact h1
  exact ⟨hq, h2, Nat.mul_le_mul_left _ (by omega), h1⟩
theorem kc_ez {x : Sen} (h : Ok1 x) : kc (ezT x.2.2.1 x.2.2.2) ≤ 4 * lvS x + 2 * qS x ∧ ks 80 (ezT x.2.2.1 x.2.2.2) ≤ 89 * lvS x + 8 * qS x ∧ (lvS x ≤ 80 → lvs (ezT x.2.2.1 x.2.2.2) ≤ 80) := by
  have h1 := kc_le _ (isT_ezT h.2.1 h.2.2)
  have h2 := ezT_le h.2.1 h.2.2
  unfold lvS qS
  omega
/-! the room of letters -/
def RX (xs : List Sen) : Prop := xs.length ≤ 8 ∧ (xs.map lvS).sum ≤ 80 ∧ (xs.map qS).sum ≤ 149 ∧ (xs.map mS).sum ≤ 8990
def RY (ys : List Sen) : Prop := ys.length ≤ 24 ∧ (∀ y ∈ ys, lvS y ≤ 80 ∧ qS y ≤ 149) ∧ (ys.map mS).sum ≤ 8990
theorem sum_mem {α : Type} {F : α → Nat} : ∀ {xs : List α} {x : α}, x ∈ xs → F x ≤ (xs.map F).sum := by
  intro xs
  induction xs with
  | nil => intro x h; cases h
  | cons y t ih =>
    intro x h
    simp only [List.map_cons, List.sum_cons]
    rcases List.mem_cons.mp h with rfl | h
    · omega
    · have := ih h
      omega
theorem RX.y {xs : List Sen} (h : RX xs) : RY xs := ⟨by have := h.1; omega, fun y hy => ⟨Nat.le_trans (sum_mem hy) h.2.1, Nat.le_trans (sum_mem hy) h.2.2.1⟩, h.2.2.2⟩
theorem sum3 {α : Type} {F G K : α → Nat} {A B M : Nat} : ∀ {xs : List α}, (∀ x ∈ xs, F x ≤ A + B * G x + M * K x) → (xs.map F).sum ≤ A * xs.length + B * (xs.map G).sum + M * (xs.map K).sum := by
  intro xs
  induction xs with
  | nil => intro _; exact Nat.zero_le _
  | cons y t ih =>
    intro h
    have h1 := ih (fun z hz => h z (List.mem_cons_of_mem _ hz))
    have h2 := h y List.mem_cons_self
    simp only [List.map_cons, List.sum_cons, List.length_cons, Nat.mul_add, Nat.mul_one]
    omega
theorem RX.cells {xs : List Sen} (h : RX xs) (ok : ∀ x ∈ xs, Ok1 x) : (xs.map cE).sum ≤ 1100 ∧ (xs.map (sE 80)).sum ≤ 14000 := by
  have h1 := sum3 (F := cE) (G := lvS) (K := qS) (A := 30) (B := 4) (M := 2) (xs := xs) (fun x hx => by
    have := kc_ez (ok x hx)
    unfold cE
    omega)
  have h2 := sum3 (F := sE 80) (G := lvS) (K := qS) (A := 320) (B := 89) (M := 8) (xs := xs) (fun x hx => by
    have := kc_ez (ok x hx)
    unfold sE
    omega)
  obtain ⟨a, b, c, -⟩ := h
  omega
theorem at_split {α : Type} {ys : List α} {i : Nat} {x : α} (h : ys[i]? = some x) : ys = ys.take i ++ x :: ys.drop (i + 1) := by
  obtain ⟨hl, rfl⟩ := List.getElem?_eq_some_iff.mp h
  rw [← List.drop_eq_getElem_cons hl, List.take_append_drop]
theorem RY.split {ys zs us : List Sen} {a b : List Sen} (h : RY (a ++ us ++ b)) (h1 : (zs.map mS).sum ≤ (us.map mS).sum) (h2 : ∀ z ∈ zs, lvS z ≤ 80 ∧ qS z ≤ 149) (h3 : (a ++ zs ++ b).length ≤ 24) : RY (a ++ zs ++ b) := by
  refine ⟨h3, fun y hy => ?_, ?_⟩
  · rcases List.mem_append.mp hy with hy | hy
    · rcases List.mem_append.mp hy with hy | hy
      · exact h.2.1 y (List.mem_append_left _ (List.mem_append_left _ hy))
      · exact h2 y hy
    · exact h.2.1 y (List.mem_append_right _ hy)
  · have := h.2.2
    simp only [List.map_append, List.sum_append] at this ⊢
    omega
theorem RY.at {ys zs : List Sen} {i : Nat} {x : Sen} (h : RY ys) (hx : ys[i]? = some x) (h1 : (zs.map mS).sum ≤ mS x) (h2 : ∀ z ∈ zs, lvS z ≤ lvS x ∧ qS z ≤ qS x) (h3 : ys.length + zs.length ≤ 25) : RY (ys.take i ++ zs ++ ys.drop (i + 1)) := by
  have e := at_split hx
  have hm : x ∈ ys := List.mem_of_getElem? hx
  have hl := (List.getElem?_eq_some_iff.mp hx).1
  refine RY.split (ys := ys) (us := [x]) ?_ ?_ (fun z hz => ?_) ?_
  · rw [List.append_assoc]
    rw [e] at h
    exact h
  · simp only [List.map_cons, List.map_nil, List.sum_cons, List.sum_nil]
    omega
  · have := h2 z hz
    have := h.2.1 x hm
    omega
  · simp only [List.length_append, List.length_take, List.length_drop]
    omega
theorem set_split {α : Type} {ys : List α} {i : Nat} {x y : α} (hx : ys[i]? = some x) : ys.set i y = ys.take i ++ [y] ++ ys.drop (i + 1) := by
  rw [List.set_eq_take_append_cons_drop, if_pos (List.getElem?_eq_some_iff.mp hx).1, List.append_assoc]
  rfl
theorem RY.turn {ys : List Sen} {i : Nat} {x : Sen} (h : RY ys) (hx : ys[i]? = some x) : RY (ys.set i (trn x)) := by
  rw [set_split hx]
  refine h.at hx (Nat.le_refl _) (fun z hz => ?_) (by have := h.1; simp only [List.length_cons, List.length_nil]; omega)
  obtain rfl := List.mem_singleton.mp hz
  exact ⟨Nat.le_refl _, Nat.le_refl _⟩
theorem RY.ease {ys : List Sen} {i : Nat} {x : Sen} (h : RY ys) (hx : ys[i]? = some x) (ok : Ok1 x) : RY (ys.set i (ezS x)) := by
  obtain ⟨a, b, c, -⟩ := ezS_le ok
  rw [set_split hx]
  refine h.at hx (by simp only [List.map_cons, List.map_nil, List.sum_cons, List.sum_nil]; omega) (fun z hz => ?_) (by have := h.1; simp only [List.length_cons, List.length_nil]; omega)
  obtain rfl := List.mem_singleton.mp hz
  omega
theorem wAct_sum (x : Sen) : ∀ (vs : List Int), ((vs.map (wAct x)).map mS).sum = vs.length * (80 + 14 * qS x) := by
  intro vs
  induction vs with
  | nil => exact (Nat.zero_mul _).symm
  | cons v t ih =>
    simp only [List.map_cons, List.sum_cons, List.length_cons, Nat.add_mul, Nat.one_mul]
    rw [ih]
    have : mS (wAct x v) = 80 + 14 * qS x := Nat.one_mul _
    omega
theorem RY.part {ys : List Sen} {i : Nat} {x : Sen} (h : RY ys) (hx : ys[i]? = some x) (hc : canP ys.length x = true) : RY (prt ys i x) := by
  unfold canP at hc
  simp only [Bool.and_eq_true, decide_eq_true_eq] at hc
  refine h.at hx (by rw [wAct_sum]; exact Nat.le_refl _) (fun z hz => ?_) (by rw [List.length_map]; omega)
  obtain ⟨v, hv, rfl⟩ := List.mem_map.mp hz
  exact ⟨Nat.le_refl _, Nat.le_refl _⟩
theorem alk_q {x y : Sen} (h : alk x y = true) : qS x = qS y := by
  unfold alk at h
  have h := of_decide_eq_true h
  unfold qS uO
  rw [h.2.2.1, h.2.2.2]
theorem RY.melt {ys : List Sen} {i : Nat} {x y : Sen} (h : RY ys) (hx : ys[i]? = some x) (hy : ys[i + 1]? = some y) (hc : canM x y = true) : RY (mel ys i x y) := by
  unfold canM at hc
  simp only [Bool.and_eq_true] at hc
  have hq := alk_q hc.1.1
  have e : ys = ys.take i ++ [x, y] ++ ys.drop (i + 2) := by
    have e1 := at_split hx
    have e2 : ys.drop (i + 1) = y :: ys.drop (i + 2) := by
      obtain ⟨hl, rfl⟩ := List.getElem?_eq_some_iff.mp hy
      exact List.drop_eq_getElem_cons hl
    rw [e2] at e1
    rw [List.append_assoc]
    exact e1
  have hl := (List.getElem?_eq_some_iff.mp hy).1
  have hh : RY (ys.take i ++ [mlt x y] ++ ys.drop (i + 2)) := by
    refine RY.split (ys := ys) (us := [x, y]) ?_ ?_ (fun z hz => ?_) ?_
    · rw [← e]
      exact h
    · simp only [List.map_cons, List.map_nil, List.sum_cons, List.sum_nil]
      have : mS (mlt x y) = mS x + mS y := by
        unfold mS
        rw [← hq]
        show (x.1.1 ++ y.1.1).length * (80 + 14 * qS x) = _
        rw [List.length_append, Nat.add_mul]
      omega
    · obtain rfl := List.mem_singleton.mp hz
      exact h.2.1 x (List.mem_of_getElem? hx)
    · have := h.1
      simp only [List.length_append, List.length_take, List.length_drop, List.length_cons, List.length_nil]
      omega
  have e3 : mel ys i x y = ys.take i ++ [mlt x y] ++ ys.drop (i + 2) := by
    unfold mel
    rw [List.append_assoc]
    rfl
  rw [e3]
  exact hh
theorem way_sz {t e : Bool} {c x : Sen} (ok : Ok1 x) (h : c.2 = x.2) : lvS (wyE e (wyT t c)) = lvS x ∧ qS (wyE e (wyT t c)) ≤ qS x ∧ (wyE e (wyT t c)).1.1 = c.1.1 := by
  have h2 : (wyT t c).2 = x.2 := by
    unfold wyT
    split
    · exact h
    · exact h
  have h3 : (wyT t c).1.1 = c.1.1 := by
    unfold wyT
    split <;> rfl
  generalize wyT t c = b at h2 h3 ⊢
  unfold wyE
  split
  · obtain ⟨g1, g2, -⟩ := ezO_le ok.2.1 ok.2.2
    refine ⟨?_, ?_, h3⟩
    · show lvO (ezO b.2.2.1 b.2.2.2) + 0 = _
      rw [h2]
      exact g2
    · show (cdO (ezO b.2.2.1 b.2.2.2)).length + 0 + 0 ≤ _
      rw [h2]
      exact g1
  · unfold lvS qS
    rw [h2]
    exact ⟨rfl, Nat.le_refl _, h3⟩
theorem wyL_sz (p t e : Bool) {x : Sen} (ok : Ok1 x) : (∀ c ∈ wyL p t e x, lvS c ≤ lvS x ∧ qS c ≤ qS x) ∧ ((wyL p t e x).map mS).sum ≤ mS x := by
  unfold wyL
  cases p with
  | false =>
    have h := way_sz (t := t) (e := e) (c := x) ok rfl
    show (∀ c ∈ [wyE e (wyT t x)], _) ∧ ([mS (wyE e (wyT t x))]).sum ≤ mS x
    refine ⟨fun c hc => ?_, ?_⟩
    · obtain rfl := List.mem_singleton.mp hc
      omega
    · simp only [List.sum_cons, List.sum_nil]
      unfold mS
      rw [h.2.2]
      have := Nat.mul_le_mul_left x.1.1.length (show 80 + 14 * qS (wyE e (wyT t x)) ≤ 80 + 14 * qS x by omega)
      omega
  | true =>
    show (∀ c ∈ (x.1.1.map (wAct x)).map (fun c => wyE e (wyT t c)), _) ∧ (((x.1.1.map (wAct x)).map (fun c => wyE e (wyT t c))).map mS).sum ≤ mS x
    refine ⟨fun c hc => ?_, ?_⟩
    · obtain ⟨c1, hc1, rfl⟩ := List.mem_map.mp hc
      obtain ⟨v, hv, rfl⟩ := List.mem_map.mp hc1
      have h := way_sz (t := t) (e := e) (c := wAct x v) ok rfl
      omega
    · unfold mS
      generalize x.1.1 = vs
      induction vs with
      | nil => exact Nat.zero_le _
      | cons v r ih =>
        have h := way_sz (t := t) (e := e) (c := wAct x v) ok rfl
        simp only [List.map_cons, List.sum_cons, List.length_cons, Nat.add_mul, Nat.one_mul] at ih ⊢
        rw [h.2.2]
        show 1 * (80 + 14 * qS (wyE e (wyT t (wAct x v)))) + _ ≤ _
        omega
theorem RX.plain {xs : List Sen} (h : RX xs) (ok : ∀ x ∈ xs, Ok1 x) : RY (xs.flatMap plL) := by
  refine ⟨?_, fun y hy => ?_, ?_⟩
  · have := flat_len (fun x hx => (ok x hx).1)
    have := h.1
    omega
  · obtain ⟨x, hx, hy⟩ := List.mem_flatMap.mp hy
    have h1 := (wyL_sz _ _ _ (ok x hx)).1 y hy
    have h2 := h.y.2.1 x hx
    omega
  · have key : ∀ zs : List Sen, (∀ x ∈ zs, Ok1 x) → ((zs.flatMap plL).map mS).sum ≤ (zs.map mS).sum := by
      intro zs
      induction zs with
      | nil => intro _; exact Nat.le_refl _
      | cons z t ih =>
        intro hz
        have h1 := ih (fun q hq => hz q (List.mem_cons_of_mem _ hq))
        have h2 := (wyL_sz (wp (bsW z)) (wq (bsW z)) (we (bsW z)) (hz z List.mem_cons_self)).2
        simp only [List.flatMap_cons, List.map_append, List.sum_append, List.map_cons, List.sum_cons]
        show ((wyL (wp (bsW z)) (wq (bsW z)) (we (bsW z)) z).map mS).sum + _ ≤ _
        omega
    exact Nat.le_trans (key xs ok) h.2.2.2
/-! what a letter's text bears -/
theorem sentP_sz {tb : Nat → Int} {e p p1 : Nat} {x : Sen} (hp : p ≤ e) (h : sentP tb e p = .inl (x, p1)) : (p + 3 * ((cdO x.2.2.1).length + (cdO x.2.2.2).length) ≤ p1 ∧ p + 5 * lvS x ≤ p1 ∧ p1 ≤ e) ∧ isTO x.2.2.1 ∧ isTO x.2.2.2 := by
  have un : ∀ (p2 : Nat) (w : Option TT) (b : BD), p2 ≤ e → sbind (unP tb e p2) (fun u p3 => sbind (wiP tb e p3) (fun dy p4 => .inl ((b, dy, w, u), p4))) = .inl (x, p1) → x.2.2.1 = w ∧ isTO x.2.2.2 ∧ p2 + 3 * (cdO x.2.2.2).length ≤ p1 ∧ p2 + 5 * lvO x.2.2.2 ≤ p1 := by
    intro p2 w b hp2 h
    have h1 := bl_ge tb e p2
    have h1e : bl tb e p2 ≤ e := bl_le hp2
    have h2 := wend_ge tb e (bl tb e p2)
    have h2e : wend tb e (bl tb e p2) ≤ e := wend_le h1e
    have wi : ∀ (p3 : Nat) (u : Option TT), sbind (wiP tb e p3) (fun dy p4 => .inl (((b, dy, w, u) : Sen), p4)) = .inl (x, p1) → x.2.2 = (w, u) ∧ p3 ≤ p1 := by
      intro p3 u h
      have h5 := wiP_up h
      cases hw : wiP tb e p3 with
      | inr q => rw [hw, sb_r] at h; cases h
      | inl q =>
        rw [hw, sb_l] at h
        cases h
        exact ⟨rfl, h5⟩
    unfold unP at h
    cases hu : psP tb e p2 zUnless with
    | false =>
      rw [hu, if_neg (by decide), sb_l] at h
      obtain ⟨e1, e2⟩ := wi _ _ h
      rw [e1]
      refine ⟨rfl, trivial, ?_, ?_⟩
      · show p2 + 3 * 0 ≤ p1; omega
      · show p2 + 5 * 0 ≤ p1; omega
    | true =>
      rw [hu, if_pos rfl] at h
      obtain ⟨g1, g2⟩ := condP_rd tb e (wend tb e (bl tb e p2)) h2e
      cases hq : condP tb e 12 (wend tb e (bl tb e p2)) with
      | inr b =>
        rw [hq, sb_r, sb_r] at h
        cases h
      | inl q =>
        obtain ⟨t, p3⟩ := q
        rw [hq, sb_l, sb_l] at h
        obtain ⟨k1, k2, k3, k4, k5⟩ := g1 t p3 hq
        obtain ⟨e1, e2⟩ := wi _ _ h
        have k6 := (cd_nd t k3 0).1
        rw [e1]
        refine ⟨rfl, k3, ?_, ?_⟩
        · show p2 + 3 * (cd t 0).length ≤ p1; omega
        · show p2 + 5 * lvs t ≤ p1; omega
  have bd : ∀ (p2 : Nat) (w : Option TT), p2 ≤ e → sbind (bodyP tb e p2) (fun b p3 => sbind (unP tb e p3) (fun u p3 => sbind (wiP tb e p3) (fun dy p4 => .inl ((b, dy, w, u), p4)))) = .inl (x, p1) → x.2.2.1 = w ∧ isTO x.2.2.2 ∧ p2 + 3 * (cdO x.2.2.2).length ≤ p1 ∧ p2 + 5 * lvO x.2.2.2 ≤ p1 := by
    intro p2 w hp2 h
    have h1 := bodyP_up (tb := tb) (e := e) (p := p2)
    cases hb : bodyP tb e p2 with
    | inr q => rw [hb, sb_r] at h; cases h
    | inl q =>
      obtain ⟨b, p3⟩ := q
      have h2 := (bodyP_ok hp2 hb).2
      rw [hb, sb_l] at h
      rw [hb] at h1
      change p2 ≤ p3 at h1
      obtain ⟨z1, z2, z3, z4⟩ := un p3 w b h2 h
      exact ⟨z1, z2, by omega, by omega⟩
  have hle := sentP_le (tb := tb) hp
  rw [h] at hle
  have hle : p1 ≤ e := hle
  have h0 := bl_ge tb e p
  have h1 : bl tb e p ≤ e := bl_le hp
  have h2 : wend tb e (bl tb e p) ≤ e := wend_le h1
  have h3 := wend_ge tb e (bl tb e p)
  unfold sentP ifP at h
  cases hi : psP tb e p zIf with
  | false =>
    rw [hi, if_neg (by decide), sb_l] at h
    obtain ⟨e1, e2, e3, e4⟩ := bd _ _ h1 h
    unfold lvS
    rw [e1]
    refine ⟨⟨?_, ?_, hle⟩, trivial, e2⟩
    · show p + 3 * (0 + _) ≤ p1; omega
    · show p + 5 * (0 + _) ≤ p1; omega
  | true =>
    rw [hi, if_pos rfl] at h
    obtain ⟨g1, g2⟩ := condP_rd tb e (wend tb e (bl tb e p)) h2
    cases hq : condP tb e 12 (wend tb e (bl tb e p)) with
    | inr b => rw [hq, sb_r, sb_r] at h; cases h
    | inl q =>
      obtain ⟨t, p3⟩ := q
      rw [hq, sb_l] at h
      obtain ⟨k1, k2, k3, k4, k5⟩ := g1 t p3 hq
      have h5 := bl_ge tb e p3
      cases hsg : sgP tb e p3 44 with
      | false => rw [hsg, if_neg (by decide), sb_r] at h; cases h
      | true =>
        have hlt := sgP_lt hsg
        rw [hsg, if_pos rfl, sb_l] at h
        obtain ⟨e1, e2, e3, e4⟩ := bd (bl tb e p3 + 1) (some t) (by omega) h
        have k6 := (cd_nd t k3 0).1
        unfold lvS
        rw [e1]
        refine ⟨⟨?_, ?_, hle⟩, k3, e2⟩
        · show p + 3 * ((cd t 0).length + _) ≤ p1; omega
        · show p + 5 * (lvs t + _) ≤ p1; omega
theorem lettF_sz {tb : Nat → Int} {e : Nat} : ∀ (m : Nat) (acc : List Sen) (p : Nat) (q : List Sen × Nat), p ≤ e → acc.length + m = 8 → 3 * (acc.map (fun x : Sen => (cdO x.2.2.1).length + (cdO x.2.2.2).length)).sum ≤ p → 5 * (acc.map lvS).sum ≤ p → (∀ x ∈ acc, Ok1 x) → lettF tb e m acc p = .inl q →
    3 * (q.1.map (fun x : Sen => (cdO x.2.2.1).length + (cdO x.2.2.2).length)).sum ≤ e ∧ 5 * (q.1.map lvS).sum ≤ e ∧ (∀ x ∈ q.1, Ok1 x) ∧ q.1.length ≤ 8 := by
  intro m
  induction m with
  | zero => intro acc p q hp hm h3 h5 hok h; cases h
  | succ m ih =>
    intro acc p q hp hm h3 h5 hok h
    unfold lettF at h
    cases hs : sentP tb e p with
    | inr b => rw [hs, sb_r] at h; cases h
    | inl s =>
      obtain ⟨x, p1⟩ := s
      obtain ⟨⟨z1, z2, z3⟩, z4, z5⟩ := sentP_sz hp hs
      have hx : Ok1 x := ⟨(sentP_ok hp hs).1, z4, z5⟩
      have hb := bl_ge tb e p1
      have hbe : bl tb e p1 ≤ e := bl_le z3
      have a3 : 3 * ((acc ++ [x]).map (fun x : Sen => (cdO x.2.2.1).length + (cdO x.2.2.2).length)).sum ≤ p1 := by
        simp only [List.map_append, List.sum_append, List.map_cons, List.map_nil, List.sum_cons, List.sum_nil]
        omega
      have a5 : 5 * ((acc ++ [x]).map lvS).sum ≤ p1 := by
        simp only [List.map_append, List.sum_append, List.map_cons, List.map_nil, List.sum_cons, List.sum_nil]
        omega
      have aok : ∀ y ∈ acc ++ [x], Ok1 y := fun y hy => by
        rcases List.mem_append.mp hy with hy | hy
        · exact hok y hy
        · obtain rfl := List.mem_singleton.mp hy
          exact hx
      have al : (acc ++ [x]).length = acc.length + 1 := by simp
      rw [hs, sb_l] at h
      by_cases h1 : bl tb e p1 = e
      · rw [if_pos h1] at h
        cases h
        refine ⟨?_, ?_, aok, ?_⟩
        · show 3 * ((acc ++ [x]).map _).sum ≤ e
          omega
        · show 5 * ((acc ++ [x]).map lvS).sum ≤ e
          omega
        · show (acc ++ [x]).length ≤ 8
          omega
      · rw [if_neg h1] at h
        by_cases h2 : inR tb e 59 59 (bl tb e p1) = true ∧ acc.length + 1 ≠ 8
        · rw [if_pos h2] at h
          exact ih (acc ++ [x]) (bl tb e p1 + 1) q (by omega) (by omega) (by omega) (by omega) aok h
        · rw [if_neg h2] at h
          cases h
theorem lett_RX {tb : Nat → Int} {e : Nat} {q : List Sen × Nat} (he : e ≤ 400) (h : lettF tb e 8 [] 0 = .inl q) : RX q.1 ∧ ∀ x ∈ q.1, Ok1 x := by
  obtain ⟨h1, h2, h3, h4⟩ := lettF_sz 8 [] 0 q (Nat.zero_le _) rfl (Nat.le_refl _) (Nat.le_refl _) (fun x hx => by cases hx) h
  have h5 := sum3 (F := qS) (G := fun x : Sen => (cdO x.2.2.1).length + (cdO x.2.2.2).length) (K := fun _ => 0) (A := 2) (B := 1) (M := 0) (xs := q.1) (fun x hx => by
    show qS x ≤ 2 + 1 * ((cdO x.2.2.1).length + (cdO x.2.2.2).length) + 0 * 0
    unfold qS uO
    split <;> omega)
  have h6 := sum3 (F := mS) (G := qS) (K := fun _ => 0) (A := 240) (B := 42) (M := 0) (xs := q.1) (fun x hx => by
    have := Nat.mul_le_mul_right (80 + 14 * qS x) (h3 x hx).1.1.1.1
    unfold mS
    omega)
  exact ⟨⟨h4, by omega, by omega, by omega⟩, h3⟩
