/-- what a place with such a 'what' and such places below it is -/
def NK (v : Int) (ts : List TT) (t : TT) : Prop :=
  (∃ n : Nat, n < 10 ∧ v = n ∧ ts = [] ∧ t = .count n) ∨ (∃ c, v = 10 ∧ ts = [c] ∧ t = .not c) ∨ (∃ a b as, v = 1000 ∧ ts = a :: b :: as ∧ t = (b :: as).foldl .and a) ∨ (∃ a b as, v = 2000 ∧ ts = a :: b :: as ∧ t = (b :: as).foldl .or a)
/-- place p is the tree t, made of the places fp, at most n deep -/
def TA (wh fi ne : Nat → Int) : Nat → Nat → TT → List Nat → Prop
  | 0, _, _, _ => False
  | n + 1, p, t, fp => p < 1400 ∧ ∃ qs : List (Nat × TT × List Nat), chn ne (fi p) (qs.map (fun q => q.1)) ∧ (∀ q ∈ qs, TA wh fi ne n q.1 q.2.1 q.2.2) ∧ fp = p :: qs.flatMap (fun q => q.2.2) ∧ NK (wh p) (qs.map (fun q => q.2.1)) t
theorem TA.lt {wh fi ne : Nat → Int} {n p : Nat} {t : TT} {fp : List Nat} (h : TA wh fi ne n p t fp) : p < 1400 ∧ p ∈ fp := by
  cases n with
  | zero => exact h.elim
  | succ n =>
    obtain ⟨h1, qs, h2, h3, rfl, h5⟩ := h
    exact ⟨h1, List.mem_cons_self⟩
theorem NK.rng {v : Int} {ts : List TT} {t : TT} (h : NK v ts t) : 0 ≤ v ∧ v ≤ 2000 := by
  rcases h with ⟨n, h1, h2, -⟩ | ⟨c, h, -⟩ | ⟨a, b, as, h, -⟩ | ⟨a, b, as, h, -⟩ <;> omega
theorem TA.rng {wh fi ne : Nat → Int} {n p : Nat} {t : TT} {fp : List Nat} (h : TA wh fi ne n p t fp) : 0 ≤ wh p ∧ wh p ≤ 2000 := by
  cases n with
  | zero => exact h.elim
  | succ n =>
    obtain ⟨h1, qs, h2, h3, rfl, h5⟩ := h
    exact h5.rng
theorem nA_fold (a : TT) (as : List TT) : nA (as.foldl .and a) = nA a + (as.map nA).sum := by
  induction as generalizing a with
  | nil => simp
  | cons b as ih => rw [List.foldl_cons, ih]; simp only [nA, List.map_cons, List.sum_cons]; omega
theorem nO_fold (a : TT) (as : List TT) : nO (as.foldl .or a) = nO a + (as.map nO).sum := by
  induction as generalizing a with
  | nil => simp
  | cons b as ih => rw [List.foldl_cons, ih]; simp only [nO, List.map_cons, List.sum_cons]; omega
theorem fold_and (a b : TT) (as : List TT) : ∃ x y, (b :: as).foldl .and a = .and x y := by
  induction as generalizing a b with
  | nil => exact ⟨a, b, rfl⟩
  | cons c as ih => exact ih (.and a b) c
theorem fold_or (a b : TT) (as : List TT) : ∃ x y, (b :: as).foldl .or a = .or x y := by
  induction as generalizing a b with
  | nil => exact ⟨a, b, rfl⟩
  | cons c as ih => exact ih (.or a b) c
theorem cd_fold_and (a : TT) (as : List TT) : cd (as.foldl .and a) 1 = cd a 1 ++ as.flatMap (fun x => cd x 1) := by
  induction as generalizing a with
  | nil => simp
  | cons b as ih => rw [List.foldl_cons, ih]; simp [cd]
theorem cd_fold_or (a : TT) (as : List TT) : cd (as.foldl .or a) 2 = cd a 2 ++ as.flatMap (fun x => cd x 2) := by
  induction as generalizing a with
  | nil => simp
  | cons b as ih => rw [List.foldl_cons, ih]; simp [cd]
/-- the number of pieces by the sort of row -/
def nP (like : Int) (t : TT) : Nat := if like = 1000 then nA t else nO t
/-- the mode of a row's pieces -/
def mP (like : Int) : Nat := if like = 1000 then 1 else 2
theorem NK.other {v like : Int} {ts : List TT} {t : TT} (h : NK v ts t) (hl : like = 1000 ∨ like = 2000) (hv : ¬ v = like) : nP like t = 1 ∧ cd t (mP like) = cd t 0 := by
  rcases hl with rfl | rfl
  · rcases h with ⟨n, h1, h2, -, rfl⟩ | ⟨c, h, -, rfl⟩ | ⟨a, b, as, h, -⟩ | ⟨a, b, as, h, -, rfl⟩
    · exact ⟨rfl, rfl⟩
    · exact ⟨rfl, rfl⟩
    · exact absurd h hv
    · obtain ⟨x, y, e⟩ := fold_or a b as
      rw [e]
      exact ⟨rfl, rfl⟩
  · rcases h with ⟨n, h1, h2, -, rfl⟩ | ⟨c, h, -, rfl⟩ | ⟨a, b, as, h, -, rfl⟩ | ⟨a, b, as, h, -⟩
    · exact ⟨rfl, rfl⟩
    · exact ⟨rfl, rfl⟩
    · obtain ⟨x, y, e⟩ := fold_and a b as
      rw [e]
      exact ⟨rfl, rfl⟩
    · exact absurd h hv
theorem NK.like {v like : Int} {ts : List TT} {t : TT} (h : NK v ts t) (hl : like = 1000 ∨ like = 2000) (hv : v = like) : nP like t = (ts.map (nP like)).sum ∧ cd t (mP like) = ts.flatMap (fun x => cd x (mP like)) ∧ cd t 0 = (like + (nP like t : Int)) :: cd t (mP like) := by
  subst hv
  rcases hl with rfl | rfl
  · rcases h with ⟨n, h1, h2, -, rfl⟩ | ⟨c, h, -, rfl⟩ | ⟨a, b, as, h, rfl, rfl⟩ | ⟨a, b, as, h, -, rfl⟩
    · omega
    · omega
    · refine ⟨?_, ?_, ?_⟩
      · show nA _ = (List.map nA _).sum
        rw [nA_fold]; simp
      · show cd _ 1 = _
        rw [cd_fold_and]; simp [mP]
      · show cd _ 0 = (1000 + (nA _ : Int)) :: cd _ 1
        obtain ⟨x, y, e⟩ := fold_and a b as
        rw [e]; simp [cd, nA]
    · omega
  · rcases h with ⟨n, h1, h2, -, rfl⟩ | ⟨c, h, -, rfl⟩ | ⟨a, b, as, h, -, rfl⟩ | ⟨a, b, as, h, rfl, rfl⟩
    · omega
    · omega
    · omega
    · refine ⟨?_, ?_, ?_⟩
      · show nO _ = (List.map nO _).sum
        rw [nO_fold]; simp
      · show cd _ 2 = _
        rw [cd_fold_or]; simp [mP]
      · show cd _ 0 = (2000 + (nO _ : Int)) :: cd _ 2
        obtain ⟨x, y, e⟩ := fold_or a b as
        rw [e]; simp [cd, nO]
set_option maxRecDepth 20000 in
theorem m_size : ∀ (n : Nat) {d p : Nat} {t : TT} {fp : List Nat} {sf : SF} {sa : SA} {like : Int}, n ≤ d → (like = 1000 ∨ like = 2000) → TA (sa 29) (sa 30) (sa 31) n p t fp → MM yX9_size cX9_size 5 (some .int) d [.int (iI p), .int (iI like)] sf sa (fun r sf' sa' => r = some (.int (iI (nP like t))) ∧ sf' = sf ∧ sa' = sa) := by
  intro n
  induction n with
  | zero => intro d p t fp sf sa like _ _ h; exact h.elim
  | succ n ih =>
    intro d p t fp sf sa like hd hl h
    obtain ⟨hp, qs, hch, hq, rfl, hnk⟩ := h
    have hr := hnk.rng
    refine MM.of2 (by decide +kernel) rfl (Nat.le_of_ble_eq_true rfl) (fun L g hL X C => ?_)
    have loop : ∀ (rest : List (Nat × TT × List Nat)) (z acc : Int), chn (sa 31) z (rest.map (fun q => q.1)) → (∀ q ∈ rest, TA (sa 29) (sa 30) (sa 31) n q.1 q.2.1 q.2.2) → acc + ((rest.map (fun q => nP like q.2.1)).sum : Nat) = (nP like t : Nat) → X 0 0 L (ov sf sa g) 22 [some (.ref 20), some (.int (iI p)), some (.int (iI like)), some (.int (iI acc)), some (.int (iI z))] [] := by
      intro rest
      induction rest with
      | nil =>
        intro z acc hz _ hs
        have hz : z = -1 := hz
        refine C.iload dX9_size_22 rfl ?_
        refine C.if_ltI (tgt := 49) dX9_size_24 (by decide) (by omega) (fun hc24 => ?_) (fun hc24 => absurd hc24 (by omega))
        refine C.iload_n dX9_size_49 rfl ?_
        refine C.retI rfl (by first | rfl | (exact (iI_bool (by first | exact Or.inl rfl | exact Or.inr rfl | assumption)).1)) dX9_size_50 (Nat.le_refl _) (Nat.le_refl _) ⟨_, _, ?_, rfl, rfl⟩
        refine ⟨?_, rfl, rfl⟩
        simp at hs
        rw [hs]
      | cons q rest ih2 =>
        intro z acc hz ht hs
        obtain ⟨hz, hz2⟩ : z = (q.1 : Int) ∧ chn (sa 31) (sa 31 q.1) (rest.map (fun (q : Nat × TT × List Nat) => q.1)) := hz
        have hq1 := ht q List.mem_cons_self
        have hlt := hq1.lt.1
        subst hz
        refine C.iload dX9_size_22 rfl ?_
        refine C.if_ltI (tgt := 49) dX9_size_24 (by decide) (by omega) (fun hc24 => absurd hc24 (by omega)) (fun hc24 => ?_)
        refine C.iload_n dX9_size_27 rfl ?_
        refine C.aload_n dX9_size_28 rfl ?_
        refine C.iload dX9_size_29 rfl ?_
        refine C.iload_n dX9_size_31 rfl ?_
        refine C.mcall hL (ih (d := d - 1) (by omega) hl hq1) cw_X9_size ml_X9_82 im_X9_size sl_X9_size dX9_size_32 rfl rfl (by omega) (Nat.le_refl _) (Nat.le_refl _) (Nat.le_of_ble_eq_true rfl) rfl (fun r32 sf32 sa32 hR32 => ?_)
        obtain ⟨rfl, hs, ha⟩ := hR32
        rw [hs, ha]
        clear hs ha
        refine C.iaddI dX9_size_35 ?_
        refine C.istore_n dX9_size_36 (by decide) rfl ?_
        refine C.aload_n dX9_size_37 rfl ?_
        refine C.mget hL gf_X9_42 dX9_size_38 rfl ?_
        refine C.iload dX9_size_41 rfl ?_
        refine C.maldk hL dX9_size_43 (by decide) rfl (by decide) rfl (by omega) ?_
        refine C.istore dX9_size_44 (by decide) rfl ?_
        refine C.goto (tgt := 22) dX9_size_46 (by decide) ?_
        refine ih2 _ _ hz2 (fun q hq => ht q (List.mem_cons_of_mem _ hq)) ?_
        rw [List.map_cons, List.sum_cons] at hs
        omega
    refine C.aload_n dX9_size_0 rfl ?_
    refine C.mget hL gf_X9_36 dX9_size_1 rfl ?_
    refine C.iload_n dX9_size_4 rfl ?_
    refine C.maldk hL dX9_size_5 (by decide) rfl (by decide) rfl (by omega) ?_
    refine C.iload_n dX9_size_6 rfl ?_
    refine C.icmp_eqI (tgt := 12) dX9_size_7 (by decide) (by omega) (by omega) (fun hc7 => ?_) (fun hc7 => ?_)
    · refine C.ic dX9_size_12 ?_
      refine C.istore_n dX9_size_13 (by decide) rfl ?_
      refine C.aload_n dX9_size_14 rfl ?_
      refine C.mget hL gf_X9_39 dX9_size_15 rfl ?_
      refine C.iload_n dX9_size_18 rfl ?_
      refine C.maldk hL dX9_size_19 (by decide) rfl (by decide) rfl (by omega) ?_
      refine C.istore dX9_size_20 (by decide) rfl ?_
      refine loop qs _ 0 hch hq ?_
      obtain ⟨e1, -⟩ := hnk.like hl hc7
      rw [e1, List.map_map]
      simp
      rfl
    · obtain ⟨e1, -⟩ := hnk.other hl hc7
      refine C.ic dX9_size_10 ?_
      refine C.retI rfl rfl dX9_size_11 (Nat.le_refl _) (Nat.le_refl _) ⟨_, _, ?_, rfl, rfl⟩
      rw [e1]
      exact ⟨rfl, rfl, rfl⟩
/-- row a holds xs from b on -/
def wrS (sa : SA) (a b : Nat) (xs : List Int) : SA := fun c j => if c = a ∧ b ≤ j ∧ j < b + xs.length then xs.getD (j - b) 0 else sa c j
theorem wrS_ne {sa : SA} {a b c : Nat} {xs : List Int} (h : c ≠ a) : wrS sa a b xs c = sa c := by
  funext j
  unfold wrS
  rw [if_neg (fun q => h q.1)]
theorem wrS_nil {sa : SA} {a b : Nat} : wrS sa a b [] = sa := by
  funext c j
  unfold wrS
  rw [if_neg (by simp)]
theorem wrS_one {sa : SA} {a b : Nat} {x : Int} : va_up sa a (va_up (sa a) b x) = wrS sa a b [x] := by
  funext c j
  unfold wrS va_up
  by_cases hc : c = a
  · subst hc
    by_cases hj : j = b
    · subst hj; simp
    · have hne : ¬ (c = c ∧ b ≤ j ∧ j < b + ([x] : List Int).length) := by
        rintro ⟨-, h1, h2⟩
        simp at h2
        omega
      rw [if_pos rfl, if_neg hj, if_neg hne]
  · rw [if_neg hc, if_neg (fun q => hc q.1)]
theorem wrS_app {sa : SA} {a b : Nat} {xs ys : List Int} : wrS (wrS sa a b xs) a (b + xs.length) ys = wrS sa a b (xs ++ ys) := by
  funext c j
  unfold wrS
  by_cases hc : c = a
  · subst hc
    by_cases h1 : b + xs.length ≤ j ∧ j < b + xs.length + ys.length
    · rw [if_pos ⟨rfl, h1⟩, if_pos (by rw [List.length_append]; omega)]
      rw [List.getD_eq_getElem?_getD, List.getD_eq_getElem?_getD, List.getElem?_append_right (by omega)]
      congr 2
      omega
    · rw [if_neg (fun q => h1 q.2)]
      by_cases h2 : b ≤ j ∧ j < b + xs.length
      · rw [if_pos ⟨rfl, h2⟩, if_pos (by rw [List.length_append]; omega)]
        rw [List.getD_eq_getElem?_getD, List.getD_eq_getElem?_getD, List.getElem?_append_left (by omega)]
      · rw [if_neg (fun q => h2 q.2), if_neg (by rw [List.length_append]; omega)]
  · rw [if_neg (fun q => hc q.1), if_neg (fun q => hc q.1), if_neg (fun q => hc q.1)]
set_option maxRecDepth 20000 in
set_option maxHeartbeats 2000000 in
theorem m_lays2 : ∀ (n : Nat), (∀ {d p b : Nat} {t : TT} {fp : List Nat} {sf : SF} {sa : SA} {like l : Int}, 2 * n ≤ d → (like = 1000 ∨ like = 2000) → TA (sa 29) (sa 30) (sa 31) n p t fp → sa 29 p = like → sf 19 = l → 0 ≤ l → b + l + (cd t (mP like)).length ≤ 84000 → MM yX9_laysThose cX9_laysThose 5 none d [.int (iI p), .int (iI like), .int (iI b)] sf sa (fun r sf' sa' => r = none ∧ sf' = va_up sf 19 (l + (cd t (mP like)).length) ∧ sa' = wrS sa 28 (b + l.toNat) (cd t (mP like)))) ∧
    (∀ {d p b : Nat} {t : TT} {fp : List Nat} {sf : SF} {sa : SA} {l : Int}, 2 * n + 1 ≤ d → TA (sa 29) (sa 30) (sa 31) n p t fp → sf 19 = l → 0 ≤ l → b + l + (cd t 0).length ≤ 84000 → MM yX9_lays cX9_lays 3 none d [.int (iI p), .int (iI b)] sf sa (fun r sf' sa' => r = none ∧ sf' = va_up sf 19 (l + (cd t 0).length) ∧ sa' = wrS sa 28 (b + l.toNat) (cd t 0))) := by
  intro n
  induction n with
  | zero => exact ⟨fun _ _ h => h.elim, fun _ h => h.elim⟩
  | succ n ih =>
    have ihL := @ih.2
    have hthose : ∀ {d p b : Nat} {t : TT} {fp : List Nat} {sf : SF} {sa : SA} {like l : Int}, 2 * (n + 1) ≤ d → (like = 1000 ∨ like = 2000) → TA (sa 29) (sa 30) (sa 31) (n + 1) p t fp → sa 29 p = like → sf 19 = l → 0 ≤ l → b + l + (cd t (mP like)).length ≤ 84000 → MM yX9_laysThose cX9_laysThose 5 none d [.int (iI p), .int (iI like), .int (iI b)] sf sa (fun r sf' sa' => r = none ∧ sf' = va_up sf 19 (l + (cd t (mP like)).length) ∧ sa' = wrS sa 28 (b + l.toNat) (cd t (mP like))) := by
      intro d p b t fp sf sa like l hd hl h hlk hsl hl0 hroom
      obtain ⟨hp, qs, hch, hq, rfl, hnk⟩ := h
      obtain ⟨-, ecd, -⟩ := hnk.like hl hlk
      refine MM.of2 (by decide +kernel) rfl (Nat.le_of_ble_eq_true rfl) (fun L g hL X C => ?_)
      have loop : ∀ (rest : List (Nat × TT × List Nat)) (z : Int) (xs : List Int), chn (sa 31) z (rest.map (fun q => q.1)) → (∀ q ∈ rest, TA (sa 29) (sa 30) (sa 31) n q.1 q.2.1 q.2.2) → xs ++ rest.flatMap (fun q => cd q.2.1 (mP like)) = cd t (mP like) → X 0 0 L (ov (va_up sf 19 (l + xs.length)) (wrS sa 28 (b + l.toNat) xs) g) 8 [some (.ref 20), some (.int (iI p)), some (.int (iI like)), some (.int (iI b)), some (.int (iI z))] [] := by
        intro rest
        induction rest with
        | nil =>
          intro z xs hz _ hs
          have hz : z = -1 := hz
          refine C.iload dX9_laysThose_8 rfl ?_
          refine C.if_ltI (tgt := 54) dX9_laysThose_10 (by decide) (by omega) (fun hc10 => ?_) (fun hc10 => absurd hc10 (by omega))
          refine C.vret rfl dX9_laysThose_54 (Nat.le_refl _) (Nat.le_refl _) ⟨_, _, ?_, rfl, rfl⟩
          simp at hs
          rw [hs]
          exact ⟨rfl, rfl, rfl⟩
        | cons q rest ih2 =>
          intro z xs hz ht hs
          obtain ⟨hz, hz2⟩ : z = (q.1 : Int) ∧ chn (sa 31) (sa 31 q.1) (rest.map (fun (q : Nat × TT × List Nat) => q.1)) := hz
          have hq1 := ht q List.mem_cons_self
          have hlt := hq1.lt.1
          have hwr := hq1.rng
          have e29 : wrS sa 28 (b + l.toNat) xs 29 = sa 29 := wrS_ne (by decide)
          have e30 : wrS sa 28 (b + l.toNat) xs 30 = sa 30 := wrS_ne (by decide)
          have e31 : wrS sa 28 (b + l.toNat) xs 31 = sa 31 := wrS_ne (by decide)
          have hq2 : TA (wrS sa 28 (b + l.toNat) xs 29) (wrS sa 28 (b + l.toNat) xs 30) (wrS sa 28 (b + l.toNat) xs 31) n q.1 q.2.1 q.2.2 := by rw [e29, e30, e31]; exact hq1
          have hlen : xs.length + (cd q.2.1 (mP like)).length ≤ (cd t (mP like)).length := by
            rw [← hs]; simp; (try omega)
          have hnext : X 0 0 L (ov (va_up sf 19 (l + (xs ++ cd q.2.1 (mP like)).length)) (wrS sa 28 (b + l.toNat) (xs ++ cd q.2.1 (mP like))) g) 42 [some (.ref 20), some (.int (iI p)), some (.int (iI like)), some (.int (iI b)), some (.int (iI q.1))] [] := by
            have e31' : wrS sa 28 (b + l.toNat) (xs ++ cd q.2.1 (mP like)) 31 q.1 = sa 31 q.1 := by rw [wrS_ne (by decide)]
            refine C.aload_n dX9_laysThose_42 rfl ?_
            refine C.mget hL gf_X9_42 dX9_laysThose_43 rfl ?_
            refine C.iload dX9_laysThose_46 rfl ?_
            refine C.maldk hL dX9_laysThose_48 (by decide) rfl (by decide) rfl (by omega) ?_
            refine C.topI e31' ?_
            refine C.istore dX9_laysThose_49 (by decide) rfl ?_
            refine C.goto (tgt := 8) dX9_laysThose_51 (by decide) ?_
            refine ih2 _ (xs ++ cd q.2.1 (mP like)) hz2 (fun q hq => ht q (List.mem_cons_of_mem _ hq)) ?_
            rw [← hs]; simp
          have esf : va_up (va_up sf 19 (l + xs.length)) 19 (l + xs.length + (cd q.2.1 (mP like)).length) = va_up sf 19 (l + (xs ++ cd q.2.1 (mP like)).length) := by
            rw [bx_uu]; congr 1; rw [List.length_append]; omega
          have esa : wrS (wrS sa 28 (b + l.toNat) xs) 28 (b + (l + xs.length).toNat) (cd q.2.1 (mP like)) = wrS sa 28 (b + l.toNat) (xs ++ cd q.2.1 (mP like)) := by
            rw [← wrS_app]; congr 1; omega
          subst hz
          by_cases hk : sa 29 q.1 = like
          · refine C.iload dX9_laysThose_8 rfl ?_
            refine C.if_ltI (tgt := 54) dX9_laysThose_10 (by decide) (by omega) (fun hc10 => absurd hc10 (by omega)) (fun hc10 => ?_)
            refine C.aload_n dX9_laysThose_13 rfl ?_
            refine C.mget hL gf_X9_36 dX9_laysThose_14 rfl ?_
            refine C.iload dX9_laysThose_17 rfl ?_
            refine C.maldk hL dX9_laysThose_19 (by decide) rfl (by decide) rfl (by omega) ?_
            refine C.topI (b := sa 29 q.1) (by rw [e29]) ?_
            refine C.iload_n dX9_laysThose_20 rfl ?_
            refine C.icmp_neI (tgt := 35) dX9_laysThose_21 (by decide) (by omega) (by omega) (fun hc21 => absurd hc21 (fun h => h hk)) (fun hc21 => ?_)
            refine C.aload_n dX9_laysThose_24 rfl ?_
            refine C.iload dX9_laysThose_25 rfl ?_
            refine C.iload_n dX9_laysThose_27 rfl ?_
            refine C.iload_n dX9_laysThose_28 rfl ?_
            refine C.mcall hL (ih.1 (d := d - 1) (l := l + xs.length) (by omega) hl hq2 (by rw [e29]; exact hk) (va_up_self _ _ _) (by omega) (by omega)) cw_X9_laysThose ml_X9_92 im_X9_laysThose sl_X9_laysThose dX9_laysThose_29 rfl rfl (by omega) (Nat.le_refl _) (Nat.le_refl _) (Nat.le_of_ble_eq_true rfl) rfl (fun r29 sf29 sa29 hR29 => ?_)
            obtain ⟨rfl, hs, ha⟩ := hR29
            rw [hs, ha]
            clear hs ha
            rw [esf, esa]
            refine C.goto (tgt := 42) dX9_laysThose_32 (by decide) ?_
            exact hnext
          · obtain ⟨e1, e2⟩ : nP like q.2.1 = 1 ∧ cd q.2.1 (mP like) = cd q.2.1 0 := by
              cases n with
              | zero => exact hq1.elim
              | succ n => obtain ⟨-, qs', -, -, -, hnk'⟩ := hq1; exact hnk'.other hl hk
            rw [e2] at hlen hnext esf esa
            refine C.iload dX9_laysThose_8 rfl ?_
            refine C.if_ltI (tgt := 54) dX9_laysThose_10 (by decide) (by omega) (fun hc10 => absurd hc10 (by omega)) (fun hc10 => ?_)
            refine C.aload_n dX9_laysThose_13 rfl ?_
            refine C.mget hL gf_X9_36 dX9_laysThose_14 rfl ?_
            refine C.iload dX9_laysThose_17 rfl ?_
            refine C.maldk hL dX9_laysThose_19 (by decide) rfl (by decide) rfl (by omega) ?_
            refine C.topI (b := sa 29 q.1) (by rw [e29]) ?_
            refine C.iload_n dX9_laysThose_20 rfl ?_
            refine C.icmp_neI (tgt := 35) dX9_laysThose_21 (by decide) (by omega) (by omega) (fun hc21 => ?_) (fun hc21 => absurd hc21 hk)
            refine C.aload_n dX9_laysThose_35 rfl ?_
            refine C.iload dX9_laysThose_36 rfl ?_
            refine C.iload_n dX9_laysThose_38 rfl ?_
            refine C.mcall hL (ih.2 (d := d - 1) (l := l + xs.length) (by omega) hq2 (va_up_self _ _ _) (by omega) (by omega)) cw_X9_lays ml_X9_89 im_X9_lays sl_X9_lays dX9_laysThose_39 rfl rfl (by omega) (Nat.le_refl _) (Nat.le_refl _) (Nat.le_of_ble_eq_true rfl) rfl (fun r39 sf39 sa39 hR39 => ?_)
            obtain ⟨rfl, hs, ha⟩ := hR39
            rw [hs, ha]
            clear hs ha
            rw [esf, esa]
            exact hnext
      refine C.aload_n dX9_laysThose_0 rfl ?_
      refine C.mget hL gf_X9_39 dX9_laysThose_1 rfl ?_
      refine C.iload_n dX9_laysThose_4 rfl ?_
      refine C.maldk hL dX9_laysThose_5 (by decide) rfl (by decide) rfl (by omega) ?_
      refine C.istore dX9_laysThose_6 (by decide) rfl ?_
      have h0 := loop qs _ [] hch hq (by rw [ecd, List.flatMap_map]; rfl)
      rw [wrS_nil] at h0
      have e : va_up sf 19 (l + ([] : List Int).length) = sf := by
        funext j
        by_cases hj : j = 19
        · subst hj; rw [va_up_self, hsl]; simp
        · exact va_up_ne _ _ hj
      rw [e] at h0
      exact h0
    refine ⟨hthose, ?_⟩
    intro d p b t fp sf sa l hd h hsl hl0 hroom
    have hta := h
    obtain ⟨hp, qs, hch, hq, rfl, hnk⟩ := h
    have hrg := hnk.rng
    subst hsl
    refine MM.of2 (by decide +kernel) rfl (Nat.le_of_ble_eq_true rfl) (fun L g hL X C => ?_)
    by_cases hv : sa 29 p < 10
    · have et : cd t 0 = [sa 29 p] := by
        rcases hnk with ⟨n, h1, h2, -, rfl⟩ | ⟨c, h, -⟩ | ⟨a, b, as, h, -⟩ | ⟨a, b, as, h, -⟩
        · rw [h2]; rfl
        · omega
        · omega
        · omega
      rw [et] at hroom
      simp at hroom
      refine C.aload_n dX9_lays_0 rfl ?_
      refine C.mget hL gf_X9_36 dX9_lays_1 rfl ?_
      refine C.iload_n dX9_lays_4 rfl ?_
      refine C.maldk hL dX9_lays_5 (by decide) rfl (by decide) rfl (by omega) ?_
      refine C.bi dX9_lays_6 (by decide) ?_
      refine C.icmp_geI (tgt := 39) dX9_lays_8 (by decide) (by omega) (by omega) (fun hc8 => absurd hc8 (by omega)) (fun hc8 => ?_)
      refine C.aload_n dX9_lays_11 rfl ?_
      refine C.mget hL gf_X9_33 dX9_lays_12 rfl ?_
      refine C.iload_n dX9_lays_15 rfl ?_
      refine C.aload_n dX9_lays_16 rfl ?_
      refine C.mget hL gf_X9_86 dX9_lays_17 rfl ?_
      refine C.iaddI dX9_lays_20 ?_
      refine C.aload_n dX9_lays_21 rfl ?_
      refine C.mget hL gf_X9_36 dX9_lays_22 rfl ?_
      refine C.iload_n dX9_lays_25 rfl ?_
      refine C.maldk hL dX9_lays_26 (by decide) rfl (by decide) rfl (by omega) ?_
      refine C.mastk hL (k := b + (sf 19).toNat) (ovs_28 _ _ _) dX9_lays_27 (by decide) rfl (by decide) (by omega) (by omega) ?_
      refine C.aload_n dX9_lays_28 rfl ?_
      refine C.dup dX9_lays_29 rfl ?_
      refine C.mget hL gf_X9_86 dX9_lays_30 rfl ?_
      refine C.ic dX9_lays_33 ?_
      refine C.iaddI dX9_lays_34 ?_
      refine C.mput hL pf_X9_86 dX9_lays_35 (by decide) rfl ?_
      refine C.vret rfl dX9_lays_38 (Nat.le_refl _) (Nat.le_refl _) ⟨_, _, ?_, rfl, rfl⟩
      rw [et, wrS_one]
      exact ⟨rfl, rfl, rfl⟩
    by_cases hv2 : sa 29 p = 10
    · obtain ⟨c, hts, rfl⟩ : ∃ c, qs.map (fun q => q.2.1) = [c] ∧ t = .not c := by
        rcases hnk with ⟨n, h1, h2, -, rfl⟩ | ⟨c, h, h3, h4⟩ | ⟨a, b, as, h, -⟩ | ⟨a, b, as, h, -⟩
        · omega
        · exact ⟨c, h3, h4⟩
        · omega
        · omega
      obtain ⟨q, rfl⟩ : ∃ q, qs = [q] := by
        match qs, hts with
        | [q], _ => exact ⟨q, rfl⟩
      obtain rfl : q.2.1 = c := by simpa using hts
      have hq1 := hq q List.mem_cons_self
      have hfi : sa 30 p = q.1 := hch.1
      have hlt := hq1.lt.1
      have hcd : cd (.not q.2.1) 0 = 10 :: cd q.2.1 0 := rfl
      rw [hcd] at hroom
      simp at hroom
      have efin : wrS (va_up sa 28 (va_up (sa 28) (b + (sf 19).toNat) 10)) 28 (b + (sf 19 + 1).toNat) (cd q.2.1 0) = wrS sa 28 (b + (sf 19).toNat) (10 :: cd q.2.1 0) := by
        rw [wrS_one, show b + (sf 19 + 1).toNat = b + (sf 19).toNat + ([10] : List Int).length by simp; omega, wrS_app]; rfl
      have esf : va_up (va_up sf 19 (sf 19 + 1)) 19 (sf 19 + 1 + (cd q.2.1 0).length) = va_up sf 19 (sf 19 + (10 :: cd q.2.1 0).length) := by
        rw [bx_uu]; congr 1; simp; omega
      refine C.aload_n dX9_lays_0 rfl ?_
      refine C.mget hL gf_X9_36 dX9_lays_1 rfl ?_
      refine C.iload_n dX9_lays_4 rfl ?_
      refine C.maldk hL dX9_lays_5 (by decide) rfl (by decide) rfl (by omega) ?_
      refine C.bi dX9_lays_6 (by decide) ?_
      refine C.icmp_geI (tgt := 39) dX9_lays_8 (by decide) (by omega) (by omega) (fun hc8 => ?_) (fun hc8 => absurd hc8 (by omega))
      refine C.aload_n dX9_lays_39 rfl ?_
      refine C.mget hL gf_X9_36 dX9_lays_40 rfl ?_
      refine C.iload_n dX9_lays_43 rfl ?_
      refine C.maldk hL dX9_lays_44 (by decide) rfl (by decide) rfl (by omega) ?_
      refine C.bi dX9_lays_45 (by decide) ?_
      refine C.icmp_neI (tgt := 85) dX9_lays_47 (by decide) (by omega) (by omega) (fun hc47 => absurd hc47 (by omega)) (fun hc47 => ?_)
      refine C.aload_n dX9_lays_50 rfl ?_
      refine C.mget hL gf_X9_33 dX9_lays_51 rfl ?_
      refine C.iload_n dX9_lays_54 rfl ?_
      refine C.aload_n dX9_lays_55 rfl ?_
      refine C.mget hL gf_X9_86 dX9_lays_56 rfl ?_
      refine C.iaddI dX9_lays_59 ?_
      refine C.bi dX9_lays_60 (by decide) ?_
      refine C.mastk hL (k := b + (sf 19).toNat) (ovs_28 _ _ _) dX9_lays_62 (by decide) rfl (by decide) (by omega) (by omega) ?_
      refine C.aload_n dX9_lays_63 rfl ?_
      refine C.dup dX9_lays_64 rfl ?_
      refine C.mget hL gf_X9_86 dX9_lays_65 rfl ?_
      refine C.ic dX9_lays_68 ?_
      refine C.iaddI dX9_lays_69 ?_
      refine C.mput hL pf_X9_86 dX9_lays_70 (by decide) rfl ?_
      refine C.aload_n dX9_lays_73 rfl ?_
      refine C.aload_n dX9_lays_74 rfl ?_
      refine C.mget hL gf_X9_39 dX9_lays_75 rfl ?_
      refine C.iload_n dX9_lays_78 rfl ?_
      refine C.maldk hL dX9_lays_79 (by decide) rfl (by decide) rfl (by omega) ?_
      refine C.topI (b := (q.1 : Int)) hfi ?_
      refine C.iload_n dX9_lays_80 rfl ?_
      refine C.mcall hL (@ihL (d - 1) q.1 b _ _ _ (va_up sa 28 (va_up (sa 28) (b + (sf 19).toNat) 10)) (sf 19 + 1) (by omega) hq1 (va_up_self _ _ _) (by omega) (by omega)) cw_X9_lays ml_X9_89 im_X9_lays sl_X9_lays dX9_lays_81 rfl rfl (by omega) (Nat.le_refl _) (Nat.le_refl _) (Nat.le_of_ble_eq_true rfl) rfl (fun r81 sf81 sa81 hR81 => ?_)
      obtain ⟨rfl, hs, ha⟩ := hR81
      rw [hs, ha]
      clear hs ha
      refine C.vret rfl dX9_lays_84 (Nat.le_refl _) (Nat.le_refl _) ⟨_, _, ?_, rfl, rfl⟩
      rw [hcd, ← efin, ← esf]
      exact ⟨rfl, rfl, rfl⟩
    have hlk : sa 29 p = 1000 ∨ sa 29 p = 2000 := by
      rcases hnk with ⟨n, h1, h2, -⟩ | ⟨c, h, -⟩ | ⟨a, b, as, h, -⟩ | ⟨a, b, as, h, -⟩
      · omega
      · omega
      · exact Or.inl h
      · exact Or.inr h
    obtain ⟨-, -, ecd⟩ := hnk.like hlk rfl
    rw [ecd] at hroom
    simp at hroom
    have efin : wrS (va_up sa 28 (va_up (sa 28) (b + (sf 19).toNat) (sa 29 p + (nP (sa 29 p) t : Int)))) 28 (b + (sf 19 + 1).toNat) (cd t (mP (sa 29 p))) = wrS sa 28 (b + (sf 19).toNat) (cd t 0) := by
      rw [wrS_one, show b + (sf 19 + 1).toNat = b + (sf 19).toNat + ([sa 29 p + (nP (sa 29 p) t : Int)] : List Int).length by simp; omega, wrS_app, ecd]; rfl
    have esf : va_up (va_up sf 19 (sf 19 + 1)) 19 (sf 19 + 1 + (cd t (mP (sa 29 p))).length) = va_up sf 19 (sf 19 + (cd t 0).length) := by
      rw [bx_uu, ecd]; congr 1; simp; omega
    refine C.aload_n dX9_lays_0 rfl ?_
    refine C.mget hL gf_X9_36 dX9_lays_1 rfl ?_
    refine C.iload_n dX9_lays_4 rfl ?_
    refine C.maldk hL dX9_lays_5 (by decide) rfl (by decide) rfl (by omega) ?_
    refine C.bi dX9_lays_6 (by decide) ?_
    refine C.icmp_geI (tgt := 39) dX9_lays_8 (by decide) (by omega) (by omega) (fun hc8 => ?_) (fun hc8 => absurd hc8 (by omega))
    refine C.aload_n dX9_lays_39 rfl ?_
    refine C.mget hL gf_X9_36 dX9_lays_40 rfl ?_
    refine C.iload_n dX9_lays_43 rfl ?_
    refine C.maldk hL dX9_lays_44 (by decide) rfl (by decide) rfl (by omega) ?_
    refine C.bi dX9_lays_45 (by decide) ?_
    refine C.icmp_neI (tgt := 85) dX9_lays_47 (by decide) (by omega) (by omega) (fun hc47 => ?_) (fun hc47 => absurd hc47 hv2)
    refine C.aload_n dX9_lays_85 rfl ?_
    refine C.mget hL gf_X9_33 dX9_lays_86 rfl ?_
    refine C.iload_n dX9_lays_89 rfl ?_
    refine C.aload_n dX9_lays_90 rfl ?_
    refine C.mget hL gf_X9_86 dX9_lays_91 rfl ?_
    refine C.iaddI dX9_lays_94 ?_
    refine C.aload_n dX9_lays_95 rfl ?_
    refine C.mget hL gf_X9_36 dX9_lays_96 rfl ?_
    refine C.iload_n dX9_lays_99 rfl ?_
    refine C.maldk hL dX9_lays_100 (by decide) rfl (by decide) rfl (by omega) ?_
    refine C.aload_n dX9_lays_101 rfl ?_
    refine C.iload_n dX9_lays_102 rfl ?_
    refine C.aload_n dX9_lays_103 rfl ?_
    refine C.mget hL gf_X9_36 dX9_lays_104 rfl ?_
    refine C.iload_n dX9_lays_107 rfl ?_
    refine C.maldk hL dX9_lays_108 (by decide) rfl (by decide) rfl (by omega) ?_
    refine C.mcall hL (m_size (n + 1) (d := d - 1) (by omega) hlk hta) cw_X9_size ml_X9_82 im_X9_size sl_X9_size dX9_lays_109 rfl rfl (by omega) (Nat.le_refl _) (Nat.le_refl _) (Nat.le_of_ble_eq_true rfl) rfl (fun r109 sf109 sa109 hR109 => ?_)
    obtain ⟨rfl, hs, ha⟩ := hR109
    rw [hs, ha]
    clear hs ha
    refine C.iaddI dX9_lays_112 ?_
    refine C.mastk hL (k := b + (sf 19).toNat) (ovs_28 _ _ _) dX9_lays_113 (by decide) rfl (by decide) (by omega) (by omega) ?_
    refine C.aload_n dX9_lays_114 rfl ?_
    refine C.dup dX9_lays_115 rfl ?_
    refine C.mget hL gf_X9_86 dX9_lays_116 rfl ?_
    refine C.ic dX9_lays_119 ?_
    refine C.iaddI dX9_lays_120 ?_
    refine C.mput hL pf_X9_86 dX9_lays_121 (by decide) rfl ?_
    refine C.aload_n dX9_lays_124 rfl ?_
    refine C.iload_n dX9_lays_125 rfl ?_
    refine C.aload_n dX9_lays_126 rfl ?_
    refine C.mget hL gf_X9_36 dX9_lays_127 rfl ?_
    refine C.iload_n dX9_lays_130 rfl ?_
    refine C.maldk hL dX9_lays_131 (by decide) rfl (by decide) rfl (by omega) ?_
    refine C.iload_n dX9_lays_132 rfl ?_
    refine C.mcall hL (@hthose (d - 1) p b _ _ _ (va_up sa 28 (va_up (sa 28) (b + (sf 19).toNat) (sa 29 p + (nP (sa 29 p) t : Int)))) (sa 29 p) (sf 19 + 1) (by omega) hlk hta rfl (va_up_self _ _ _) (by omega) (by omega)) cw_X9_laysThose ml_X9_92 im_X9_laysThose sl_X9_laysThose dX9_lays_133 rfl rfl (by omega) (Nat.le_refl _) (Nat.le_refl _) (Nat.le_of_ble_eq_true rfl) rfl (fun r133 sf133 sa133 hR133 => ?_)
    obtain ⟨rfl, hs, ha⟩ := hR133
    rw [hs, ha]
    clear hs ha
    refine C.vret rfl dX9_lays_136 (Nat.le_refl _) (Nat.le_refl _) ⟨_, _, ?_, rfl, rfl⟩
    rw [← efin, ← esf]
    exact ⟨rfl, rfl, rfl⟩
