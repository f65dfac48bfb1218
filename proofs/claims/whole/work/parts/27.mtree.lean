def sfT (sf : SF) (a p : Int) : SF := va_up (va_up sf 18 a) 17 p
theorem sfT_sfT (sf : SF) (a p a2 p2 : Int) : sfT (sfT sf a p) a2 p2 = sfT sf a2 p2 := by
  funext j
  unfold sfT va_up
  by_cases h1 : j = 17
  · simp [h1]
  · by_cases h2 : j = 18 <;> simp [h1, h2]
def plS (sa : SA) (p : Nat) (w : Int) : SA := va_up (va_up (va_up sa 29 (va_up (sa 29) p w)) 30 (va_up (sa 30) p (-1))) 31 (va_up (sa 31) p (-1))
theorem plS_fr (sa : SA) (p : Nat) (w : Int) : Fr sa (plS sa p w) p (p + 1) := by
  refine ⟨fun a h1 h2 h3 => ?_, fun a j hj => ?_⟩
  · unfold plS
    rw [va_up_ne _ _ h3, va_up_ne _ _ h2, va_up_ne _ _ h1]
  · unfold plS
    have hp : j ≠ p := by omega
    by_cases h3 : a = 31
    · subst h3; rw [va_up_self, va_up_ne _ _ hp]
    rw [va_up_ne _ _ h3]
    by_cases h2 : a = 30
    · subst h2; rw [va_up_self, va_up_ne _ _ hp]
    rw [va_up_ne _ _ h2]
    by_cases h1 : a = 29
    · subst h1; rw [va_up_self, va_up_ne _ _ hp]
    rw [va_up_ne _ _ h1]
theorem ptS_Fr {s : SA} {ks : List Nat} {pl cur lo hi : Nat} (h1 : ∀ k ∈ ks, lo ≤ k ∧ k < hi) (h2 : lo ≤ pl ∧ pl < hi) (h3 : lo ≤ cur ∧ cur < hi) : Fr s (ptS s ks pl cur) lo hi := by
  refine ⟨fun a _ q2 q3 => ?_, fun a j hj => ?_⟩
  · funext j
    exact ptS_fr a j (fun e => q3 e.1) (fun e => q2 e.1)
  · refine ptS_fr a j (fun e => ?_) (fun e => by omega)
    rcases e.2 with e | e
    · omega
    · have := h1 j e; omega
theorem m_place2 {d : Nat} {sf : SF} {sa : SA} {w : Int} {pl : Nat} (hp : sf 17 = pl) (hl : pl < 1400) : MM yX9_place cX9_place 2 (some .int) d [.int (iI w)] sf sa (fun r sf' sa' => r = some (.int (iI pl)) ∧ sf' = va_up sf 17 ((pl : Int) + 1) ∧ sa' = plS sa pl w) := by
  have h := m_place (d := d) (sf := sf) (sa := sa) (w := w) (by omega)
  rw [hp] at h
  exact h
theorem isT_small {t : TT} (h : isT t) : (∃ n : Nat, n ≤ 5 ∧ t = .count n) ∨ (∃ c, isT c ∧ t = .not c) ∨ (∃ a b, isT a ∧ isT b ∧ t = .and a b) ∨ (∃ a b, isT a ∧ isT b ∧ t = .or a b) := by
  cases t with
  | count n => exact Or.inl ⟨n, h, rfl⟩
  | not c => exact Or.inr (Or.inl ⟨c, h, rfl⟩)
  | and a b => exact Or.inr (Or.inr (Or.inl ⟨a, b, h.1, h.2, rfl⟩))
  | or a b => exact Or.inr (Or.inr (Or.inr ⟨a, b, h.1, h.2, rfl⟩))
  | _ => exact h.elim
theorem flatMap_mem_len {xs : List TT} {x : TT} (h : x ∈ xs) : (cd x 0).length ≤ (xs.flatMap (fun x => cd x 0)).length := by
  obtain ⟨l1, l2, rfl⟩ := List.append_of_mem h
  rw [List.flatMap_append, List.flatMap_cons, List.length_append, List.length_append]
  omega
theorem nA_le (t : TT) : 1 ≤ nA t := by
  induction t with
  | and a b ha hb => simp only [nA]; omega
  | _ => exact Nat.le_refl _
theorem nO_le (t : TT) : 1 ≤ nO t := by
  induction t with
  | or a b ha hb => simp only [nO]; omega
  | _ => exact Nat.le_refl _
/-- a tree's head and pieces -/
theorem cd_split {t : TT} (h : isT t) : ∃ (v w : Int) (xs : List TT), cd t 0 = v :: xs.flatMap (fun x => cd x 0) ∧ (∀ x ∈ xs, isT x) ∧ NK w (xs.map fl) (fl t) ∧
    ((v < 10 ∧ 0 ≤ v ∧ w = v ∧ xs = []) ∨ (v = 10 ∧ w = 10 ∧ xs.length = 1) ∨ (w = 1000 ∧ v = 1000 + xs.length ∧ xs.length < 1000) ∨ (w = 2000 ∧ v = 2000 + xs.length) ∨ (w = 1000 ∧ v = 1000 + xs.length ∧ 1000 ≤ xs.length)) := by
  rcases isT_small h with ⟨n, hn, rfl⟩ | ⟨c, hc, rfl⟩ | ⟨a, b, ha, hb, rfl⟩ | ⟨a, b, ha, hb, rfl⟩
  · exact ⟨n, n, [], rfl, (fun _ h => by cases h), Or.inl ⟨n, by omega, rfl, rfl, rfl⟩, Or.inl ⟨by omega, by omega, rfl, rfl⟩⟩
  · exact ⟨10, 10, [c], by simp [cd], fun x hx => by rw [List.mem_singleton.mp hx]; exact hc, Or.inr (Or.inl ⟨fl c, rfl, rfl, rfl⟩), Or.inr (Or.inl ⟨rfl, rfl, rfl⟩)⟩
  · refine ⟨1000 + (nA (.and a b) : Nat), 1000, andL (.and a b), ?_, andL_isT (t := .and a b) ⟨ha, hb⟩, ?_, ?_⟩
    · rw [← cd_andL]
      simp [cd, nA]
    · obtain ⟨x, xs, e1, e2, -⟩ := fl_andL (.and a b)
      have hl := andL_len (.and a b)
      rw [e1] at hl ⊢
      cases xs with
      | nil =>
        exfalso
        have h1 := nA_le a
        have h2 := nA_le b
        simp only [nA, List.length_cons, List.length_nil] at hl
        omega
      | cons y xs => exact Or.inr (Or.inr (Or.inl ⟨fl x, fl y, xs.map fl, rfl, rfl, e2⟩))
    · rw [andL_len]
      by_cases q : nA (.and a b) < 1000
      · exact Or.inr (Or.inr (Or.inl ⟨rfl, rfl, q⟩))
      · exact Or.inr (Or.inr (Or.inr (Or.inr ⟨rfl, rfl, by omega⟩)))
  · refine ⟨2000 + (nO (.or a b) : Nat), 2000, orL (.or a b), ?_, orL_isT (t := .or a b) ⟨ha, hb⟩, ?_, ?_⟩
    · rw [← cd_orL]
      simp [cd, nO]
    · obtain ⟨x, xs, e1, e2, -⟩ := fl_orL (.or a b)
      have hl := orL_len (.or a b)
      rw [e1] at hl ⊢
      cases xs with
      | nil =>
        exfalso
        have h1 := nO_le a
        have h2 := nO_le b
        simp only [nO, List.length_cons, List.length_nil] at hl
        omega
      | cons y xs => exact Or.inr (Or.inr (Or.inr ⟨fl x, fl y, xs.map fl, rfl, rfl, e2⟩))
    · rw [orL_len]
      exact Or.inr (Or.inr (Or.inr (Or.inl ⟨rfl, rfl⟩)))
theorem len_pieces {xs : List TT} (h : ∀ x ∈ xs, isT x) : xs.length ≤ (xs.flatMap (fun x => cd x 0)).length := by
  induction xs with
  | nil => simp
  | cons x xs ih =>
    have h1 := cd_len x (h x List.mem_cons_self) 0
    have h2 := ih (fun y hy => h y (List.mem_cons_of_mem _ hy))
    simp only [List.length_cons, List.flatMap_cons, List.length_append]
    omega
set_option maxRecDepth 20000 in
set_option maxHeartbeats 4000000 in
theorem m_tree : ∀ (N : Nat) {d b ac pl : Nat} {t : TT} {sf : SF} {sa : SA}, N ≤ d → N ≤ 800 → isT t → (cd t 0).length ≤ N → sf 18 = ac → sf 17 = pl → pl + (cd t 0).length ≤ 1400 → b + ac + (cd t 0).length ≤ 84000 → (∀ j, j < (cd t 0).length → sa 28 (b + ac + j) = (cd t 0).getD j 0) → MM yX9_tree cX9_tree 6 (some .int) d [.int (iI b)] sf sa (fun r sf' sa' => r = some (.int (iI pl)) ∧ sf' = sfT sf ((ac + (cd t 0).length : Nat) : Int) ((pl + (cd t 0).length : Nat) : Int) ∧ Fr sa sa' pl (pl + (cd t 0).length) ∧ ∃ fp, TA (sa' 29) (sa' 30) (sa' 31) N pl (fl t) fp ∧ fp.Nodup ∧ ∀ k ∈ fp, pl ≤ k ∧ k < pl + (cd t 0).length) := by
  intro N
  induction N with
  | zero => intro d b ac pl t sf sa _ _ ht hl; have := cd_len t ht 0; omega
  | succ N ih =>
    intro d b ac pl t sf sa hd hN ht hl h18 h17 hpl hb hcode
    obtain ⟨v, w, xs, ecd, hxs, hnk, hvw⟩ := cd_split ht
    have hlen : (cd t 0).length = (xs.flatMap (fun x => cd x 0)).length + 1 := by rw [ecd]; rfl
    have hxl := len_pieces hxs
    have hv0 : sa 28 (b + ac) = v := by
      have := hcode 0 (by omega)
      rw [ecd] at this
      exact this
    have hvr : 0 ≤ v ∧ v < 4000 := by omega
    refine MM.of2 (by decide +kernel) rfl (Nat.le_of_ble_eq_true rfl) (fun L g hL X C => ?_)
    have loop : ∀ (rest : List TT) (qs : List QT) (cur a1 : Nat) (s : SA), (∀ x ∈ rest, isT x) → cur + (rest.flatMap (fun x => cd x 0)).length = pl + (cd t 0).length → a1 + (rest.flatMap (fun x => cd x 0)).length = ac + (cd t 0).length → (∀ j, j < (rest.flatMap (fun x => cd x 0)).length → sa 28 (b + a1 + j) = (rest.flatMap (fun x => cd x 0)).getD j 0) → (rest.flatMap (fun x => cd x 0)).length ≤ N → qs.length + rest.length = xs.length → chn (s 31) (s 30 pl) (qs.map (fun q => q.1)) → (∀ q ∈ qs, TA (s 29) (s 30) (s 31) N q.1 q.2.1 q.2.2) → (pl :: qs.flatMap (fun q => q.2.2)).Nodup → (∀ k ∈ qs.flatMap (fun q => q.2.2), pl < k ∧ k < cur) → pl < cur → qs.map (fun q => q.2.1) ++ rest.map fl = xs.map fl → s 29 pl = w → Fr sa s pl cur → X 0 0 L (ov (sfT sf a1 cur) s g) 100 [some (.ref 20), some (.int (iI b)), some (.int (iI v)), some (.int (iI pl)), some (.int (iI xs.length)), some (.int (iI qs.length))] [] := by
      intro rest
      induction rest with
      | nil =>
        intro qs cur a1 s _ hcur ha1 _ _ hm hch hTA hnd hrg hpc hts hw hFr
        simp only [List.flatMap_nil, List.length_nil, Nat.add_zero] at hcur ha1 hm
        refine C.iload dX9_tree_100 rfl ?_
        refine C.iload dX9_tree_102 rfl ?_
        refine C.icmp_geI (tgt := 123) dX9_tree_104 (by decide) (by omega) (by omega) (fun hc104 => ?_) (fun hc104 => absurd hc104 (by omega))
        refine C.iload_n dX9_tree_123 rfl ?_
        refine C.retI rfl (by first | rfl | (exact (iI_bool (by first | exact Or.inl rfl | exact Or.inr rfl | assumption)).1)) dX9_tree_124 (Nat.le_refl _) (Nat.le_refl _) ⟨_, _, ?_, rfl, rfl⟩
        refine ⟨rfl, by rw [hcur, ha1], by rw [← hcur]; exact hFr, pl :: qs.flatMap (fun q => q.2.2), ⟨by omega, qs, hch, hTA, rfl, ?_⟩, hnd, ?_⟩
        · rw [hw]
          simp only [List.map_nil, List.append_nil] at hts
          rw [hts]
          exact hnk
        · intro k hk
          rcases List.mem_cons.mp hk with rfl | hk
          · omega
          · have := hrg k hk; omega
      | cons x rest ih2 =>
        intro qs cur a1 s hT hcur ha1 hcd hrl hm hch hTA hnd hrg hpc hts hw hFr
        simp only [List.flatMap_cons, List.length_append, List.length_cons] at hcur ha1 hcd hrl hm
        have hlx0 := cd_len x (hT x List.mem_cons_self) 0
        have h28 : s 28 = sa 28 := hFr.1 28 (by decide) (by decide) (by decide)
        have hM := ih (d := d - 1) (b := b) (ac := a1) (pl := cur) (t := x) (sf := sfT sf a1 cur) (sa := s) (by omega) (by omega) (hT x List.mem_cons_self) (by omega) rfl rfl (by omega) (by omega) (fun j hj => by
          rw [h28, hcd j (by omega), List.getD_eq_getElem?_getD, List.getD_eq_getElem?_getD, List.getElem?_append_left hj])
        refine C.iload dX9_tree_100 rfl ?_
        refine C.iload dX9_tree_102 rfl ?_
        refine C.icmp_geI (tgt := 123) dX9_tree_104 (by decide) (by omega) (by omega) (fun hc104 => absurd hc104 (by omega)) (fun hc104 => ?_)
        refine C.aload_n dX9_tree_107 rfl ?_
        refine C.iload_n dX9_tree_108 rfl ?_
        refine C.aload_n dX9_tree_109 rfl ?_
        refine C.iload_n dX9_tree_110 rfl ?_
        refine C.mcall hL (hM) cw_X9_tree ml_X9_72 im_X9_tree sl_X9_tree dX9_tree_111 rfl rfl (by omega) (Nat.le_refl _) (Nat.le_refl _) (Nat.le_of_ble_eq_true rfl) rfl (fun r111 sf111 sa111 hR111 => ?_)
        obtain ⟨rfl, hs, hF2, fp, hTx, hndx, hrgx⟩ := hR111
        rw [hs, sfT_sfT]
        clear hs
        have hkeep : ∀ q ∈ qs, TA (sa111 29) (sa111 30) (sa111 31) N q.1 q.2.1 q.2.2 := fun q hq => by
          have hin : ∀ k ∈ q.2.2, k < cur := fun k hk => (hrg k (List.mem_flatMap.mpr ⟨q, hq, hk⟩)).2
          have hndq : q.2.2.Nodup := by
            refine List.Pairwise.sublist ?_ (List.nodup_cons.mp hnd).2
            obtain ⟨l1, l2, e⟩ := List.append_of_mem hq
            rw [e, List.flatMap_append, List.flatMap_cons]
            exact (List.sublist_append_left _ _).trans (List.sublist_append_right _ _)
          exact TA.congr N (hTA q hq) hndq (fun k hk => hF2.2 29 k (Or.inl (hin k hk))) (fun k hk => hF2.2 30 k (Or.inl (hin k hk))) (fun k hk _ => hF2.2 31 k (Or.inl (hin k hk)))
        have hroots : ∀ k ∈ qs.map (fun q => q.1), pl < k ∧ k < cur := fun k hk => by
          obtain ⟨q, hq, rfl⟩ := List.mem_map.mp hk
          exact hrg _ (List.mem_flatMap.mpr ⟨q, hq, (hTA q hq).lt.2⟩)
        have hch2 : chn (sa111 31) (sa111 30 pl) (qs.map (fun q => q.1)) := by
          rw [hF2.2 30 pl (Or.inl hpc)]
          exact chn_congr _ _ (fun k hk => hF2.2 31 k (Or.inl (hroots k hk).2)) hch
        have hTall : ∀ q ∈ qs ++ [((cur, fl x, fp) : QT)], TA (sa111 29) (sa111 30) (sa111 31) N q.1 q.2.1 q.2.2 := fun q hq => by
          rcases List.mem_append.mp hq with h | h
          · exact hkeep q h
          · rw [List.mem_singleton.mp h]; exact hTx
        have hndall : (pl :: (qs ++ [((cur, fl x, fp) : QT)]).flatMap (fun q => q.2.2)).Nodup := by
          rw [List.flatMap_append, List.flatMap_cons, List.flatMap_nil, List.append_nil]
          have hnd1 := List.nodup_cons.mp hnd
          refine List.nodup_cons.mpr ⟨fun h => ?_, List.nodup_append.mpr ⟨hnd1.2, hndx, fun a ha b hb e => ?_⟩⟩
          · rcases List.mem_append.mp h with h | h
            · exact hnd1.1 h
            · have := hrgx pl h; omega
          · have h1 := hrg a ha
            have h2 := hrgx b hb
            omega
        have hadd := ptS_add (q0 := ((cur, fl x, fp) : QT)) hch2 hTall hndall
        refine C.mcall hL (m_puts (d := d - 1) (into := pl) (one := cur) (ks := qs.map (fun q => q.1)) (by omega) (by omega) (fun k hk => by have := hroots k hk; omega) (fun h => by have := hroots cur h; omega) hch2) cw_X9_puts ml_X9_75 im_X9_puts sl_X9_puts dX9_tree_114 rfl rfl (by omega) (Nat.le_refl _) (Nat.le_refl _) (Nat.le_of_ble_eq_true rfl) rfl (fun r114 sf114 sa114 hR114 => ?_)
        obtain ⟨rfl, hs, ha⟩ := hR114
        rw [hs, ha]
        clear hs ha
        refine C.iincI dX9_tree_117 rfl (by decide) rfl ?_
        refine C.goto (tgt := 100) dX9_tree_120 (by decide) ?_
        have e1 : ((qs.length : Int) + 1) = ((qs ++ [((cur, fl x, fp) : QT)]).length : Int) := by simp
        rw [e1]
        refine ih2 (qs ++ [((cur, fl x, fp) : QT)]) (cur + (cd x 0).length) (a1 + (cd x 0).length) _ (fun y hy => hT y (List.mem_cons_of_mem _ hy)) (by omega) (by omega) (fun j hj => ?_) (by omega) (by simp; omega) hadd.1 hadd.2 hndall ?_ (by omega) ?_ ?_ ?_
        · have := hcd ((cd x 0).length + j) (by omega)
          rw [show b + (a1 + (cd x 0).length) + j = b + a1 + ((cd x 0).length + j) by omega, this, List.getD_eq_getElem?_getD, List.getD_eq_getElem?_getD, List.getElem?_append_right (by omega)]
          congr 2
          omega
        · intro k hk
          rw [List.flatMap_append, List.flatMap_cons, List.flatMap_nil, List.append_nil] at hk
          rcases List.mem_append.mp hk with h | h
          · have := hrg k h; omega
          · have h9 : pl < cur := hpc
            have := hrgx k h; omega
        · rw [List.map_append, ← hts]
          simp
        · rw [ptS_fr 29 pl (by simp) (by simp), hF2.2 29 pl (Or.inl hpc)]
          exact hw
        · have hlx := cd_len x (hT x List.mem_cons_self) 0
          exact (hFr.tr hF2 (Nat.le_refl pl) (Nat.le_add_right cur _) (Nat.le_of_lt hpc) (Nat.le_refl _)).tr (ptS_Fr (lo := pl) (hi := cur + (cd x 0).length) (fun k hk => by have := hroots k hk; omega) (by omega) (by omega)) (Nat.le_refl _) (Nat.le_refl _) (Nat.le_refl _) (Nat.le_refl _)
    have start : X 0 0 L (ov (sfT sf ((ac + 1 : Nat) : Int) ((pl + 1 : Nat) : Int)) (plS sa pl w) g) 100 [some (.ref 20), some (.int (iI b)), some (.int (iI v)), some (.int (iI pl)), some (.int (iI xs.length)), some (.int (iI (0 : Nat)))] [] := by
      refine loop xs [] (pl + 1) (ac + 1) (plS sa pl w) hxs (by omega) (by omega) (fun j hj => ?_) (by omega) (by simp) ?_ (fun q hq => by cases hq) ?_ (fun k hk => by cases hk) (by omega) (by simp) ?_ (plS_fr sa pl w)
      · have := hcode (j + 1) (by omega)
        rw [ecd] at this
        rw [show b + (ac + 1) + j = b + ac + (j + 1) by omega, this]
        rfl
      · show plS sa pl w 30 pl = -1
        exact va_up_self _ _ _
      · exact List.nodup_cons.mpr ⟨fun h => (by cases h), List.nodup_nil⟩
      · exact va_up_self _ _ _
    have esf : va_up (va_up sf 18 (sf 18 + 1)) 17 ((pl : Int) + 1) = sfT sf ((ac + 1 : Nat) : Int) ((pl + 1 : Nat) : Int) := by
      rw [h18]; rfl
    rcases hvw with ⟨v1, v2, rfl, rfl⟩ | ⟨rfl, rfl, v1⟩ | ⟨rfl, v1, v2⟩ | ⟨rfl, v1⟩ | ⟨rfl, v1, v2⟩
    · refine C.aload_n dX9_tree_0 rfl ?_
      refine C.mget hL gf_X9_33 dX9_tree_1 rfl ?_
      refine C.iload_n dX9_tree_4 rfl ?_
      refine C.aload_n dX9_tree_5 rfl ?_
      refine C.mget hL gf_X9_65 dX9_tree_6 rfl ?_
      refine C.iaddI dX9_tree_9 ?_
      refine C.maldk hL (k := b + ac) dX9_tree_10 (by decide) rfl (by decide) (by omega) (by omega) ?_
      refine C.topI (b := w) hv0 ?_
      refine C.istore_n dX9_tree_11 (by decide) rfl ?_
      refine C.aload_n dX9_tree_12 rfl ?_
      refine C.dup dX9_tree_13 rfl ?_
      refine C.mget hL gf_X9_65 dX9_tree_14 rfl ?_
      refine C.ic dX9_tree_17 ?_
      refine C.iaddI dX9_tree_18 ?_
      refine C.mput hL pf_X9_65 dX9_tree_19 (by decide) rfl ?_
      refine C.aload_n dX9_tree_22 rfl ?_
      refine C.iload_n dX9_tree_23 rfl ?_
      refine C.si dX9_tree_24 (by decide) ?_
      refine C.icmp_ltI (tgt := 36) dX9_tree_27 (by decide) (by omega) (by omega) (fun hc27 => ?_) (fun hc27 => absurd hc27 (by omega))
      refine C.iload_n dX9_tree_36 rfl ?_
      refine C.si dX9_tree_37 (by decide) ?_
      refine C.icmp_ltI (tgt := 49) dX9_tree_40 (by decide) (by omega) (by omega) (fun hc40 => ?_) (fun hc40 => absurd hc40 (by omega))
      refine C.iload_n dX9_tree_49 rfl ?_
      refine C.mcall hL (m_place2 (d := d - 1) (sf := va_up sf 18 (sf 18 + 1)) (pl := pl) h17 (by omega)) cw_X9_place ml_X9_68 im_X9_place sl_X9_place dX9_tree_50 rfl rfl (by omega) (Nat.le_refl _) (Nat.le_refl _) (Nat.le_of_ble_eq_true rfl) rfl (fun r50 sf50 sa50 hR50 => ?_)
      obtain ⟨rfl, hs, ha⟩ := hR50
      rw [hs, ha, esf]
      clear hs ha
      refine C.istore_n dX9_tree_53 (by decide) rfl ?_
      refine C.iload_n dX9_tree_54 rfl ?_
      refine C.si dX9_tree_55 (by decide) ?_
      refine C.icmp_ltI (tgt := 69) dX9_tree_58 (by decide) (by omega) (by omega) (fun hc58 => ?_) (fun hc58 => absurd hc58 (by omega))
      refine C.iload_n dX9_tree_69 rfl ?_
      refine C.si dX9_tree_70 (by decide) ?_
      refine C.icmp_ltI (tgt := 84) dX9_tree_73 (by decide) (by omega) (by omega) (fun hc73 => ?_) (fun hc73 => absurd hc73 (by omega))
      refine C.iload_n dX9_tree_84 rfl ?_
      refine C.bi dX9_tree_85 (by decide) ?_
      refine C.icmp_neI (tgt := 94) dX9_tree_87 (by decide) (by omega) (by omega) (fun hc87 => ?_) (fun hc87 => absurd hc87 (by omega))
      refine C.ic dX9_tree_94 ?_
      refine C.topI (b := (([] : List TT).length : Int)) (by simp) ?_
      refine C.istore dX9_tree_95 (by decide) rfl ?_
      refine C.ic dX9_tree_97 ?_
      refine C.istore dX9_tree_98 (by decide) rfl ?_
      exact start
    · refine C.aload_n dX9_tree_0 rfl ?_
      refine C.mget hL gf_X9_33 dX9_tree_1 rfl ?_
      refine C.iload_n dX9_tree_4 rfl ?_
      refine C.aload_n dX9_tree_5 rfl ?_
      refine C.mget hL gf_X9_65 dX9_tree_6 rfl ?_
      refine C.iaddI dX9_tree_9 ?_
      refine C.maldk hL (k := b + ac) dX9_tree_10 (by decide) rfl (by decide) (by omega) (by omega) ?_
      refine C.topI (b := 10) hv0 ?_
      refine C.istore_n dX9_tree_11 (by decide) rfl ?_
      refine C.aload_n dX9_tree_12 rfl ?_
      refine C.dup dX9_tree_13 rfl ?_
      refine C.mget hL gf_X9_65 dX9_tree_14 rfl ?_
      refine C.ic dX9_tree_17 ?_
      refine C.iaddI dX9_tree_18 ?_
      refine C.mput hL pf_X9_65 dX9_tree_19 (by decide) rfl ?_
      refine C.aload_n dX9_tree_22 rfl ?_
      refine C.iload_n dX9_tree_23 rfl ?_
      refine C.si dX9_tree_24 (by decide) ?_
      refine C.icmp_ltI (tgt := 36) dX9_tree_27 (by decide) (by omega) (by omega) (fun hc27 => ?_) (fun hc27 => absurd hc27 (by omega))
      refine C.iload_n dX9_tree_36 rfl ?_
      refine C.si dX9_tree_37 (by decide) ?_
      refine C.icmp_ltI (tgt := 49) dX9_tree_40 (by decide) (by omega) (by omega) (fun hc40 => ?_) (fun hc40 => absurd hc40 (by omega))
      refine C.iload_n dX9_tree_49 rfl ?_
      refine C.mcall hL (m_place2 (d := d - 1) (sf := va_up sf 18 (sf 18 + 1)) (pl := pl) h17 (by omega)) cw_X9_place ml_X9_68 im_X9_place sl_X9_place dX9_tree_50 rfl rfl (by omega) (Nat.le_refl _) (Nat.le_refl _) (Nat.le_of_ble_eq_true rfl) rfl (fun r50 sf50 sa50 hR50 => ?_)
      obtain ⟨rfl, hs, ha⟩ := hR50
      rw [hs, ha, esf]
      clear hs ha
      refine C.istore_n dX9_tree_53 (by decide) rfl ?_
      refine C.iload_n dX9_tree_54 rfl ?_
      refine C.si dX9_tree_55 (by decide) ?_
      refine C.icmp_ltI (tgt := 69) dX9_tree_58 (by decide) (by omega) (by omega) (fun hc58 => ?_) (fun hc58 => absurd hc58 (by omega))
      refine C.iload_n dX9_tree_69 rfl ?_
      refine C.si dX9_tree_70 (by decide) ?_
      refine C.icmp_ltI (tgt := 84) dX9_tree_73 (by decide) (by omega) (by omega) (fun hc73 => ?_) (fun hc73 => absurd hc73 (by omega))
      refine C.iload_n dX9_tree_84 rfl ?_
      refine C.bi dX9_tree_85 (by decide) ?_
      refine C.icmp_neI (tgt := 94) dX9_tree_87 (by decide) (by omega) (by omega) (fun hc87 => absurd hc87 (by omega)) (fun hc87 => ?_)
      refine C.ic dX9_tree_90 ?_
      refine C.goto (tgt := 95) dX9_tree_91 (by decide) ?_
      refine C.topI (b := (xs.length : Int)) (by omega) ?_
      refine C.istore dX9_tree_95 (by decide) rfl ?_
      refine C.ic dX9_tree_97 ?_
      refine C.istore dX9_tree_98 (by decide) rfl ?_
      exact start
    · refine C.aload_n dX9_tree_0 rfl ?_
      refine C.mget hL gf_X9_33 dX9_tree_1 rfl ?_
      refine C.iload_n dX9_tree_4 rfl ?_
      refine C.aload_n dX9_tree_5 rfl ?_
      refine C.mget hL gf_X9_65 dX9_tree_6 rfl ?_
      refine C.iaddI dX9_tree_9 ?_
      refine C.maldk hL (k := b + ac) dX9_tree_10 (by decide) rfl (by decide) (by omega) (by omega) ?_
      refine C.topI (b := v) hv0 ?_
      refine C.istore_n dX9_tree_11 (by decide) rfl ?_
      refine C.aload_n dX9_tree_12 rfl ?_
      refine C.dup dX9_tree_13 rfl ?_
      refine C.mget hL gf_X9_65 dX9_tree_14 rfl ?_
      refine C.ic dX9_tree_17 ?_
      refine C.iaddI dX9_tree_18 ?_
      refine C.mput hL pf_X9_65 dX9_tree_19 (by decide) rfl ?_
      refine C.aload_n dX9_tree_22 rfl ?_
      refine C.iload_n dX9_tree_23 rfl ?_
      refine C.si dX9_tree_24 (by decide) ?_
      refine C.icmp_ltI (tgt := 36) dX9_tree_27 (by decide) (by omega) (by omega) (fun hc27 => ?_) (fun hc27 => absurd hc27 (by omega))
      refine C.iload_n dX9_tree_36 rfl ?_
      refine C.si dX9_tree_37 (by decide) ?_
      refine C.icmp_ltI (tgt := 49) dX9_tree_40 (by decide) (by omega) (by omega) (fun hc40 => absurd hc40 (by omega)) (fun hc40 => ?_)
      refine C.si dX9_tree_43 (by decide) ?_
      refine C.goto (tgt := 50) dX9_tree_46 (by decide) ?_
      refine C.mcall hL (m_place2 (d := d - 1) (sf := va_up sf 18 (sf 18 + 1)) (pl := pl) h17 (by omega)) cw_X9_place ml_X9_68 im_X9_place sl_X9_place dX9_tree_50 rfl rfl (by omega) (Nat.le_refl _) (Nat.le_refl _) (Nat.le_of_ble_eq_true rfl) rfl (fun r50 sf50 sa50 hR50 => ?_)
      obtain ⟨rfl, hs, ha⟩ := hR50
      rw [hs, ha, esf]
      clear hs ha
      refine C.istore_n dX9_tree_53 (by decide) rfl ?_
      refine C.iload_n dX9_tree_54 rfl ?_
      refine C.si dX9_tree_55 (by decide) ?_
      refine C.icmp_ltI (tgt := 69) dX9_tree_58 (by decide) (by omega) (by omega) (fun hc58 => ?_) (fun hc58 => absurd hc58 (by omega))
      refine C.iload_n dX9_tree_69 rfl ?_
      refine C.si dX9_tree_70 (by decide) ?_
      refine C.icmp_ltI (tgt := 84) dX9_tree_73 (by decide) (by omega) (by omega) (fun hc73 => absurd hc73 (by omega)) (fun hc73 => ?_)
      refine C.iload_n dX9_tree_76 rfl ?_
      refine C.si dX9_tree_77 (by decide) ?_
      refine C.isubI dX9_tree_80 ?_
      refine C.goto (tgt := 95) dX9_tree_81 (by decide) ?_
      refine C.topI (b := (xs.length : Int)) (by omega) ?_
      refine C.istore dX9_tree_95 (by decide) rfl ?_
      refine C.ic dX9_tree_97 ?_
      refine C.istore dX9_tree_98 (by decide) rfl ?_
      exact start
    · refine C.aload_n dX9_tree_0 rfl ?_
      refine C.mget hL gf_X9_33 dX9_tree_1 rfl ?_
      refine C.iload_n dX9_tree_4 rfl ?_
      refine C.aload_n dX9_tree_5 rfl ?_
      refine C.mget hL gf_X9_65 dX9_tree_6 rfl ?_
      refine C.iaddI dX9_tree_9 ?_
      refine C.maldk hL (k := b + ac) dX9_tree_10 (by decide) rfl (by decide) (by omega) (by omega) ?_
      refine C.topI (b := v) hv0 ?_
      refine C.istore_n dX9_tree_11 (by decide) rfl ?_
      refine C.aload_n dX9_tree_12 rfl ?_
      refine C.dup dX9_tree_13 rfl ?_
      refine C.mget hL gf_X9_65 dX9_tree_14 rfl ?_
      refine C.ic dX9_tree_17 ?_
      refine C.iaddI dX9_tree_18 ?_
      refine C.mput hL pf_X9_65 dX9_tree_19 (by decide) rfl ?_
      refine C.aload_n dX9_tree_22 rfl ?_
      refine C.iload_n dX9_tree_23 rfl ?_
      refine C.si dX9_tree_24 (by decide) ?_
      refine C.icmp_ltI (tgt := 36) dX9_tree_27 (by decide) (by omega) (by omega) (fun hc27 => absurd hc27 (by omega)) (fun hc27 => ?_)
      refine C.si dX9_tree_30 (by decide) ?_
      refine C.goto (tgt := 50) dX9_tree_33 (by decide) ?_
      refine C.mcall hL (m_place2 (d := d - 1) (sf := va_up sf 18 (sf 18 + 1)) (pl := pl) h17 (by omega)) cw_X9_place ml_X9_68 im_X9_place sl_X9_place dX9_tree_50 rfl rfl (by omega) (Nat.le_refl _) (Nat.le_refl _) (Nat.le_of_ble_eq_true rfl) rfl (fun r50 sf50 sa50 hR50 => ?_)
      obtain ⟨rfl, hs, ha⟩ := hR50
      rw [hs, ha, esf]
      clear hs ha
      refine C.istore_n dX9_tree_53 (by decide) rfl ?_
      refine C.iload_n dX9_tree_54 rfl ?_
      refine C.si dX9_tree_55 (by decide) ?_
      refine C.icmp_ltI (tgt := 69) dX9_tree_58 (by decide) (by omega) (by omega) (fun hc58 => absurd hc58 (by omega)) (fun hc58 => ?_)
      refine C.iload_n dX9_tree_61 rfl ?_
      refine C.si dX9_tree_62 (by decide) ?_
      refine C.isubI dX9_tree_65 ?_
      refine C.goto (tgt := 95) dX9_tree_66 (by decide) ?_
      refine C.topI (b := (xs.length : Int)) (by omega) ?_
      refine C.istore dX9_tree_95 (by decide) rfl ?_
      refine C.ic dX9_tree_97 ?_
      refine C.istore dX9_tree_98 (by decide) rfl ?_
      exact start
    · exfalso
      omega
