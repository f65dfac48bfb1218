theorem aAll_and (t : TT) : ∀ z : Int64, (andL t).foldl (fun z x => z &&& tvL x) z = z &&& tvL t := by
  induction t with
  | and a b ha hb =>
    intro z
    simp only [andL, List.foldl_append, ha, hb, tvL, Int64.and_assoc]
  | _ => intro z; rfl
theorem aAny_or (t : TT) : ∀ z : Int64, (orL t).foldl (fun z x => z ||| tvL x) z = z ||| tvL t := by
  induction t with
  | or a b ha hb =>
    intro z
    simp only [orL, List.foldl_append, ha, hb, tvL, Int64.or_assoc]
  | _ => intro z; rfl
theorem sWd_and (t : TT) : sWd (andL t) + (andL t).length = wd t + 1 := by
  unfold sWd
  induction t with
  | and a b ha hb =>
    simp only [andL, List.map_append, List.sum_append, List.length_append, wd]
    omega
  | _ => simp [andL]
theorem sWd_or (t : TT) : sWd (orL t) + (orL t).length = wd t + 1 := by
  unfold sWd
  induction t with
  | or a b ha hb =>
    simp only [orL, List.map_append, List.sum_append, List.length_append, wd]
    omega
  | _ => simp [orL]
theorem sNt_and (t : TT) : sNt (andL t) = nt t := by
  unfold sNt
  induction t with
  | and a b ha hb => simp only [andL, List.map_append, List.sum_append, nt, ha, hb]
  | _ => simp [andL]
theorem sNt_or (t : TT) : sNt (orL t) = nt t := by
  unfold sNt
  induction t with
  | or a b ha hb => simp only [orL, List.map_append, List.sum_append, nt, ha, hb]
  | _ => simp [orL]
theorem hn_and (t : TT) : (andL t).any hn = hn t := by
  induction t with
  | and a b ha hb => simp only [andL, List.any_append, hn, ha, hb]
  | _ => simp [andL]
theorem hn_or (t : TT) : (orL t).any hn = hn t := by
  induction t with
  | or a b ha hb => simp only [orL, List.any_append, hn, ha, hb]
  | _ => simp [orL]
theorem CF_not (c : TT) (p : Nat) : CF 2 [c] p = CO (.not c) p := by
  have h1 : aAny [c] = tvL c := by
    show (0 : Int64) ||| tvL c = tvL c
    simp
  have h2 : sHn 2 [c] = hn (.not c) := by
    unfold sHn
    simp only [List.any_cons, List.any_nil, Bool.or_false, decide_true, Bool.true_and]
    cases c <;> simp [hn, isN]
  unfold CF CO
  rw [h1, h2]
  simp [knd, num, tvL, wd, nt, sWd, sNt]
theorem CF_and (a b : TT) (p : Nat) : CF 1 (andL (.and a b)) p = CO (.and a b) p := by
  have h1 : aAll (andL (.and a b)) = tvL (.and a b) := by
    unfold aAll
    rw [aAll_and]
    simp
  have h2 : sHn 1 (andL (.and a b)) = hn (.and a b) := by
    unfold sHn
    simp only [show decide ((1 : Int) = 2) = false from rfl, Bool.false_and, Bool.or_false]
    exact hn_and (.and a b)
  have h3 := sWd_and (.and a b)
  have h4 := sNt_and (.and a b)
  unfold CF CO
  rw [h1, h2, h4, if_neg (by decide), if_pos rfl, if_neg (by decide), if_neg (by decide), show ((sWd (andL (.and a b)) : Nat) : Int) + ((andL (.and a b)).length : Int) - 1 = (wd (.and a b) : Nat) by omega]
  rfl
theorem CF_or (a b : TT) (p : Nat) : CF 0 (orL (.or a b)) p = CO (.or a b) p := by
  have h1 : aAny (orL (.or a b)) = tvL (.or a b) := by
    unfold aAny
    rw [aAny_or]
    simp
  have h2 : sHn 0 (orL (.or a b)) = hn (.or a b) := by
    unfold sHn
    simp only [show decide ((0 : Int) = 2) = false from rfl, Bool.false_and, Bool.or_false]
    exact hn_or (.or a b)
  have h3 := sWd_or (.or a b)
  have h4 := sNt_or (.or a b)
  unfold CF CO
  rw [h1, h2, h4, if_neg (by decide), if_neg (by decide), if_neg (by decide), if_neg (by decide), show ((sWd (orL (.or a b)) : Nat) : Int) + ((orL (.or a b)).length : Int) - 1 = (wd (.or a b) : Nat) by omega]
  rfl
theorem up_comm {f : Nat → AC} {p q : Nat} {x y : AC} (h : p ≠ q) : va_up (va_up f p x) q y = va_up (va_up f q y) p x := by
  funext j
  by_cases h1 : j = q
  · subst h1
    rw [va_up_self, va_up_ne _ _ (Ne.symm h), va_up_self]
  · rw [va_up_ne _ _ h1]
    by_cases h2 : j = p
    · subst h2; rw [va_up_self, va_up_self]
    · rw [va_up_ne _ _ h2, va_up_ne _ _ h2, va_up_ne _ _ h1]
/-- the masks of the cases lie at 18 -/
def T18 (L : List Nat) (f : Nat → AC) : Prop := 18 ∈ L ∧ f 18 = .inl (3, 6, .inr (.inl (fun i => trL.getD i 0)))
theorem c_init1 {d k n : Nat} {L : List Nat} {f : Nat → AC} (hd : 1 ≤ d) (hn : n ≤ 5) (hk : k ∈ L) (hk2 : 2000 ≤ k) (hf : f k = .inr (3, fsC)) (h18 : T18 L f) : AM yX0_init cX0_init 2 none d 1 0 [.ref k, .int (iI n)] L f (fun r L' f' => r = none ∧ ∃ p, 2000 ≤ p ∧ p ∉ L ∧ L' = L ++ [p] ∧ f' = va_up (va_up f p (aC 0 (fun _ => none))) k (.inr (3, CO (.count n) p))) := by
  refine AM.of (by decide +kernel) (by simp [Value.category]) (Nat.le_of_ble_eq_true rfl) true (fun _ => rfl) (fun X C => ?_)
  refine C.aload_n dX0_init_0 rfl ?_
  refine C.oinit dX0_init_1 (om_wsL_law0_r13 _ (List.mem_of_getElem? (i := 6) rfl)) hd (Nat.le_of_ble_eq_true rfl) ?_
  refine C.aload_n dX0_init_4 rfl ?_
  refine C.ic dX0_init_5 ?_
  refine C.putF pf_X0_11 dX0_init_6 hk hf rfl rfl (Nat.le_of_ble_eq_true rfl) ?_
  refine C.aload_n dX0_init_9 rfl ?_
  refine C.iload_n dX0_init_10 rfl ?_
  refine C.putF pf_X0_15 dX0_init_11 hk (va_up_self _ _ _) rfl rfl (Nat.le_of_ble_eq_true rfl) ?_
  rw [up_up]
  refine C.aload_n dX0_init_14 rfl ?_
  refine C.ic dX0_init_15 ?_
  refine C.newQ (t := 4) (cl := "PlainWords$Cond") (N := 0) (fun _ => rfl) (fun h => h.2.2.2.2.2.2.2.2.1.1) (om_wsL_law0_r12 _ (List.mem_of_getElem? (i := 19) rfl)) rfl (by omega) dX0_init_16 (Nat.le_refl _) (Nat.le_refl _) (fun p hp2 hpL => ?_)
  have hkp : k ≠ p := fun h => hpL (h ▸ hk)
  rw [up_comm hkp]
  refine C.putF pf_X0_18 dX0_init_19 (List.mem_append_left _ hk) (va_up_self _ _ _) rfl rfl (Nat.le_of_ble_eq_true rfl) ?_
  rw [up_up]
  refine C.aload_n dX0_init_22 rfl ?_
  refine C.iload_n dX0_init_23 rfl ?_
  refine C.if_ltI (tgt := 43) dX0_init_24 (by decide) (by omega) (fun h => absurd h (by omega)) (fun _ => ?_)
  have h18f : ∀ x, va_up (va_up f p (aC 0 (fun _ => none))) k x 18 = .inl (3, 6, .inr (.inl (fun i => trL.getD i 0))) := fun x => by
    rw [va_up_ne _ _ (by omega), va_up_ne _ _ (by omega)]
    exact h18.2
  refine C.iload_n dX0_init_27 rfl ?_
  refine C.gtru dX0_init_28 (om_wsL_law0_r14 _ (List.mem_of_getElem? (i := 8) rfl)) ?_
  refine C.alenI dX0_init_31 (List.mem_append_left _ h18.1) (h18f _) (by decide) ?_
  refine C.icmp_geI (tgt := 43) dX0_init_32 (by decide) (by omega) (by omega) (fun h => absurd h (by omega)) (fun _ => ?_)
  refine C.gtru dX0_init_35 (om_wsL_law0_r14 _ (List.mem_of_getElem? (i := 8) rfl)) ?_
  refine C.iload_n dX0_init_38 rfl ?_
  refine C.lald dX0_init_39 (List.mem_append_left _ h18.1) (h18f _) (iI_in (by omega) (by omega) (show 6 < 2147483648 by omega)) ?_
  rw [iI_clamp (by omega), Int.toNat_natCast]
  refine C.goto (tgt := 44) dX0_init_40 (by decide) ?_
  refine C.putF pf_X0_26 dX0_init_44 (List.mem_append_left _ hk) (va_up_self _ _ _) rfl rfl (Nat.le_of_ble_eq_true rfl) ?_
  rw [up_up]
  refine C.aload_n dX0_init_47 rfl ?_
  refine C.ic dX0_init_48 ?_
  refine C.putF pf_X0_30 dX0_init_49 (List.mem_append_left _ hk) (va_up_self _ _ _) rfl rfl (Nat.le_of_ble_eq_true rfl) ?_
  rw [up_up]
  refine C.aload_n dX0_init_52 rfl ?_
  refine C.ic dX0_init_53 ?_
  refine C.putF pf_X0_33 dX0_init_54 (List.mem_append_left _ hk) (va_up_self _ _ _) rfl rfl (Nat.le_of_ble_eq_true rfl) ?_
  rw [up_up]
  refine C.aload_n dX0_init_57 rfl ?_
  refine C.ic dX0_init_58 ?_
  refine C.putF pf_X0_36 dX0_init_59 (List.mem_append_left _ hk) (va_up_self _ _ _) (iI_bool (Or.inl rfl)).1 (iI_bool (Or.inl rfl)).2.1 (Nat.le_of_ble_eq_true rfl) ?_
  rw [up_up]
  exact C.vret rfl dX0_init_62 (Nat.le_refl _) (Nat.le_refl _) ⟨rfl, p, hp2, hpL, rfl, rfl⟩
/-- a new condition -/
def NwC (L : List Nat) (f : Nat → AC) (D : Nat) (t : TT) : AT := fun r L' f' => ∃ k, r = some (.ref k) ∧ CAt L' f' D k t ∧ Fo L f L' f'
theorem c_ofCase {d n : Nat} {L : List Nat} {f : Nat → AC} (hd : 2 ≤ d) (hn : n ≤ 5) (h18 : T18 L f) : AM yX0_ofCase cX0_ofCase 1 (some (.object "PlainWords$Cond")) d 2 7 [.int (iI n)] L f (NwC L f 1 (.count n)) := by
  refine AM.of (by decide +kernel) (by simp [Value.category]) (Nat.le_of_ble_eq_true rfl) false (fun h => by cases h) (fun X C => ?_)
  refine C.iload_n dX0_ofCase_0 rfl ?_
  refine C.ic dX0_ofCase_1 ?_
  refine C.icmp_neI (tgt := 9) dX0_ofCase_2 (by decide) (by omega) (by omega) (fun _ => ?_) (fun h => absurd h (by omega))
  refine C.new nf_X0_9 dX0_ofCase_9 (by omega) (Nat.le_refl _) (fun k hk2 hkL => ?_)
  refine C.dup dX0_ofCase_12 rfl ?_
  refine C.iload_n dX0_ofCase_13 rfl ?_
  have h18' : T18 (L ++ [k]) (va_up f k (.inr (3, fsC))) := ⟨List.mem_append_left _ h18.1, (va_up_ne _ _ (by omega)).trans h18.2⟩
  refine C.callI (c_init1 (d := d - 1) (n := n) (by omega) hn (List.mem_append_right _ List.mem_cons_self) hk2 (va_up_self _ _ _) h18') cw_X0_init ml_X0_42 im_X0_init rfl dX0_ofCase_14 rfl (by omega) (Nat.le_refl _) (Nat.le_refl _) (Nat.le_of_ble_eq_true rfl) rfl (fun r L9 f9 h9 => ?_)
  obtain ⟨rfl, p, hp2, hpL, rfl, rfl⟩ := h9
  refine C.aret rfl (Or.inl ⟨_, rfl⟩) dX0_ofCase_17 (Nat.le_refl _) (Nat.le_refl _) ⟨k, rfl, ?_, ?_⟩
  · have hkp : p ≠ k := fun h => hpL (h ▸ List.mem_append_right _ List.mem_cons_self)
    exact ⟨⟨hk2, List.mem_append_left _ (List.mem_append_right _ List.mem_cons_self)⟩, p, fun _ => none, va_up_self _ _ _, ⟨hp2, List.mem_append_right _ List.mem_cons_self⟩, (va_up_ne _ _ hkp).trans (va_up_self _ _ _), fun i x hi => by cases hi⟩
  · exact ((Fo.new hkL).tr (Fo.new hpL)).up hkL
