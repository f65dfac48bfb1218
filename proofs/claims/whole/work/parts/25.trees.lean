theorem TA.congr {wh fi ne wh' fi' ne' : Nat → Int} : ∀ (n : Nat) {p : Nat} {t : TT} {fp : List Nat}, TA wh fi ne n p t fp → fp.Nodup → (∀ k ∈ fp, wh' k = wh k) → (∀ k ∈ fp, fi' k = fi k) → (∀ k ∈ fp, k ≠ p → ne' k = ne k) → TA wh' fi' ne' n p t fp := by
  intro n
  induction n with
  | zero => intro p t fp h; exact h.elim
  | succ n ih =>
    intro p t fp h hnd hw hf hne
    obtain ⟨hp, qs, hch, hq, rfl, hnk⟩ := h
    have hpn : p ∉ qs.flatMap (fun q => q.2.2) := (List.nodup_cons.mp hnd).1
    have hin : ∀ q ∈ qs, ∀ k ∈ q.2.2, k ∈ qs.flatMap (fun q => q.2.2) := fun q hq k hk => List.mem_flatMap.mpr ⟨q, hq, hk⟩
    refine ⟨hp, qs, ?_, fun q hqq => ?_, rfl, by rw [hw p List.mem_cons_self]; exact hnk⟩
    · rw [hf p List.mem_cons_self]
      refine chn_congr _ _ (fun k hk => ?_) hch
      obtain ⟨q, hqq, rfl⟩ := List.mem_map.mp hk
      have h1 := hin q hqq q.1 (hq q hqq).lt.2
      exact hne _ (List.mem_cons_of_mem _ h1) (fun e => hpn (e ▸ h1))
    · refine ih (hq q hqq) ?_ (fun k hk => hw k (List.mem_cons_of_mem _ (hin q hqq k hk))) (fun k hk => hf k (List.mem_cons_of_mem _ (hin q hqq k hk))) (fun k hk _ => hne k (List.mem_cons_of_mem _ (hin q hqq k hk)) (fun e => hpn (e ▸ hin q hqq k hk)))
      have h2 := (List.nodup_cons.mp hnd).2
      refine List.Pairwise.sublist ?_ h2
      obtain ⟨l1, l2, e⟩ := List.append_of_mem hqq
      rw [e, List.flatMap_append, List.flatMap_cons]
      exact (List.sublist_append_left _ _).trans (List.sublist_append_right _ _)
theorem TA.mono {wh fi ne : Nat → Int} : ∀ (n : Nat) {m p : Nat} {t : TT} {fp : List Nat}, n ≤ m → TA wh fi ne n p t fp → TA wh fi ne m p t fp := by
  intro n
  induction n with
  | zero => intro m p t fp _ h; exact h.elim
  | succ n ih =>
    intro m p t fp hm h
    obtain ⟨hp, qs, hch, hq, e, hnk⟩ := h
    cases m with
    | zero => omega
    | succ m => exact ⟨hp, qs, hch, fun q hqq => ih (by omega) (hq q hqq), e, hnk⟩
set_option maxRecDepth 20000 in
theorem m_laysAll {n d p c : Nat} {t : TT} {fp : List Nat} {sf : SF} {sa : SA} (hd : 2 * n + 2 ≤ d) (hc : c < 200) (h : TA (sa 29) (sa 30) (sa 31) n p t fp) (hlen : (cd t 0).length ≤ 420) : MM yX9_laysAll cX9_laysAll 3 none d [.int (iI p), .int (iI c)] sf sa (fun r sf' sa' => r = none ∧ sf' = va_up sf 19 (cd t 0).length ∧ sa' = va_up (wrS sa 28 (c * 420) (cd t 0)) 27 (va_up (sa 27) c (cd t 0).length)) := by
  refine MM.of2 (by decide +kernel) rfl (Nat.le_of_ble_eq_true rfl) (fun L g hL X C => ?_)
  have e27 : wrS sa 28 (c * 420) (cd t 0) 27 = sa 27 := wrS_ne (by decide)
  have hM := @(m_lays2 n).2 (d - 1) p (c * 420) t fp (va_up sf 19 0) sa 0 (by omega) h (va_up_self _ _ _) (by omega) (by omega)
  rw [bx_uu] at hM
  simp only [Int.zero_add, Int.toNat_zero, Nat.add_zero] at hM
  refine C.aload_n dX9_laysAll_0 rfl ?_
  refine C.ic dX9_laysAll_1 ?_
  refine C.mput hL pf_X9_86 dX9_laysAll_2 (by decide) rfl ?_
  refine C.aload_n dX9_laysAll_5 rfl ?_
  refine C.iload_n dX9_laysAll_6 rfl ?_
  refine C.iload_n dX9_laysAll_7 rfl ?_
  refine C.si dX9_laysAll_8 (by decide) ?_
  refine C.imulI dX9_laysAll_11 ?_
  refine C.topI (b := ((c * 420 : Nat) : Int)) (by omega) ?_
  refine C.mcall hL (hM) cw_X9_lays ml_X9_89 im_X9_lays sl_X9_lays dX9_laysAll_12 rfl rfl (by omega) (Nat.le_refl _) (Nat.le_refl _) (Nat.le_of_ble_eq_true rfl) rfl (fun r12 sf12 sa12 hR12 => ?_)
  obtain ⟨rfl, hs, ha⟩ := hR12
  rw [hs, ha]
  clear hs ha
  refine C.aload_n dX9_laysAll_15 rfl ?_
  refine C.mget hL gf_X9_29 dX9_laysAll_16 rfl ?_
  refine C.iload_n dX9_laysAll_19 rfl ?_
  refine C.aload_n dX9_laysAll_20 rfl ?_
  refine C.mget hL gf_X9_86 dX9_laysAll_21 rfl ?_
  refine C.topI (b := ((cd t 0).length : Int)) (va_up_self _ _ _) ?_
  refine C.mastk hL (ovs_27 _ _ _) dX9_laysAll_24 (by decide) rfl (by decide) rfl (by omega) ?_
  refine C.vret rfl dX9_laysAll_25 (Nat.le_refl _) (Nat.le_refl _) ⟨_, _, ?_, rfl, rfl⟩
  rw [e27]
  exact ⟨rfl, rfl, rfl⟩
/-- the rows of places are as they were but from lo to hi; all other rows too -/
def Fr (sa sa' : SA) (lo hi : Nat) : Prop := (∀ a, a ≠ 29 → a ≠ 30 → a ≠ 31 → sa' a = sa a) ∧ ∀ a j, j < lo ∨ hi ≤ j → sa' a j = sa a j
theorem Fr.rf {sa : SA} {lo hi : Nat} : Fr sa sa lo hi := ⟨fun _ _ _ _ => rfl, fun _ _ _ => rfl⟩
theorem Fr.tr {sa sb sc : SA} {lo hi lo2 hi2 lo3 hi3 : Nat} (h1 : Fr sa sb lo hi) (h2 : Fr sb sc lo2 hi2) (a1 : lo3 ≤ lo) (a2 : hi ≤ hi3) (a3 : lo3 ≤ lo2) (a4 : hi2 ≤ hi3) : Fr sa sc lo3 hi3 :=
  ⟨fun a x y z => (h2.1 a x y z).trans (h1.1 a x y z), fun a j hj => (h2.2 a j (by omega)).trans (h1.2 a j (by omega))⟩
def andL : TT → List TT
  | .and a b => andL a ++ andL b
  | t => [t]
def orL : TT → List TT
  | .or a b => orL a ++ orL b
  | t => [t]
/-- the pieces of a tree by the sort of row -/
def pcL (like : Int) (t : TT) : List TT := if like = 1000 then andL t else orL t
theorem andL_len (t : TT) : (andL t).length = nA t := by
  induction t with
  | and a b ha hb => simp only [andL, List.length_append, ha, hb, nA]
  | _ => rfl
theorem orL_len (t : TT) : (orL t).length = nO t := by
  induction t with
  | or a b ha hb => simp only [orL, List.length_append, ha, hb, nO]
  | _ => rfl
theorem cd_andL (t : TT) : cd t 1 = (andL t).flatMap (fun x => cd x 0) := by
  induction t with
  | and a b ha hb => simp only [andL, cd, List.flatMap_append, ha, hb, if_true, List.nil_append]
  | _ => simp [andL, cd]
theorem cd_orL (t : TT) : cd t 2 = (orL t).flatMap (fun x => cd x 0) := by
  induction t with
  | or a b ha hb => simp only [orL, cd, List.flatMap_append, ha, hb, if_true, List.nil_append]
  | _ => simp [orL, cd]
theorem andL_isT {t : TT} (h : isT t) : ∀ x ∈ andL t, isT x := by
  induction t with
  | and a b ha hb =>
    intro x hx
    rcases List.mem_append.mp hx with q | q
    · exact ha h.1 x q
    · exact hb h.2 x q
  | _ => intro x hx; simp [andL] at hx; rw [hx]; exact h
theorem orL_isT {t : TT} (h : isT t) : ∀ x ∈ orL t, isT x := by
  induction t with
  | or a b ha hb =>
    intro x hx
    rcases List.mem_append.mp hx with q | q
    · exact ha h.1 x q
    · exact hb h.2 x q
  | _ => intro x hx; simp [orL] at hx; rw [hx]; exact h
theorem apA_fold (x a : TT) (as : List TT) : apA x (as.foldl .and a) = as.foldl .and (apA x a) := by
  induction as generalizing a with
  | nil => rfl
  | cons b as ih => rw [List.foldl_cons, ih]; rfl
theorem apO_fold (x a : TT) (as : List TT) : apO x (as.foldl .or a) = as.foldl .or (apO x a) := by
  induction as generalizing a with
  | nil => rfl
  | cons b as ih => rw [List.foldl_cons, ih]; rfl
theorem fl_andL (t : TT) : ∃ a as, andL t = a :: as ∧ fl t = (as.map fl).foldl .and (fl a) ∧ (∀ x y, a ≠ .and x y) := by
  induction t with
  | and a b ha hb =>
    obtain ⟨a1, as1, e1, f1, g1⟩ := ha
    obtain ⟨a2, as2, e2, f2, g2⟩ := hb
    refine ⟨a1, as1 ++ a2 :: as2, by simp only [andL, e1, e2, List.cons_append], ?_, g1⟩
    have h2 : ∀ x : TT, apA x (fl a2) = .and x (fl a2) := by
      intro x
      cases a2 with
      | and x y => exact absurd rfl (g2 x y)
      | or x y => simp only [fl]; cases fl y <;> rfl
      | _ => rfl
    simp only [fl]
    rw [f1, f2, apA_fold, h2, List.map_append, List.foldl_append, List.map_cons, List.foldl_cons]
  | or a b => exact ⟨_, [], rfl, rfl, fun x y h => by cases h⟩
  | _ => exact ⟨_, [], rfl, rfl, fun x y h => by cases h⟩
theorem fl_orL (t : TT) : ∃ a as, orL t = a :: as ∧ fl t = (as.map fl).foldl .or (fl a) ∧ (∀ x y, a ≠ .or x y) := by
  induction t with
  | or a b ha hb =>
    obtain ⟨a1, as1, e1, f1, g1⟩ := ha
    obtain ⟨a2, as2, e2, f2, g2⟩ := hb
    refine ⟨a1, as1 ++ a2 :: as2, by simp only [orL, e1, e2, List.cons_append], ?_, g1⟩
    have h2 : ∀ x : TT, apO x (fl a2) = .or x (fl a2) := by
      intro x
      cases a2 with
      | or x y => exact absurd rfl (g2 x y)
      | and x y => simp only [fl]; cases fl y <;> rfl
      | _ => rfl
    simp only [fl]
    rw [f1, f2, apO_fold, h2, List.map_append, List.foldl_append, List.map_cons, List.foldl_cons]
  | and a b => exact ⟨_, [], rfl, rfl, fun x y h => by cases h⟩
  | _ => exact ⟨_, [], rfl, rfl, fun x y h => by cases h⟩
