set_option maxRecDepth 20000 in
theorem m_treeOf {N d c pl : Nat} {t : TT} {sf : SF} {sa : SA} (hd : N + 1 ≤ d) (hN : N ≤ 800) (ht : isT t) (hl : (cd t 0).length ≤ N) (hl2 : (cd t 0).length ≤ 420) (hc : c < 200) (h17 : sf 17 = pl) (hpl : pl + (cd t 0).length ≤ 1400) (hcode : ∀ j, j < (cd t 0).length → sa 28 (c * 420 + j) = (cd t 0).getD j 0) : MM yX9_treeOf cX9_treeOf 2 (some .int) d [.int (iI c)] sf sa (fun r sf' sa' => r = some (.int (iI pl)) ∧ sf' = sfT sf ((cd t 0).length : Int) ((pl + (cd t 0).length : Nat) : Int) ∧ Fr sa sa' pl (pl + (cd t 0).length) ∧ ∃ fp, TA (sa' 29) (sa' 30) (sa' 31) N pl (fl t) fp ∧ fp.Nodup ∧ ∀ k ∈ fp, pl ≤ k ∧ k < pl + (cd t 0).length) := by
  refine MM.of2 (by decide +kernel) rfl (Nat.le_of_ble_eq_true rfl) (fun L g hL X C => ?_)
  have hM := m_tree N (d := d - 1) (b := c * 420) (ac := 0) (pl := pl) (t := t) (sf := va_up sf 18 0) (sa := sa) (by omega) hN ht hl rfl h17 hpl (by omega) hcode
  have e : ∀ a q, sfT (va_up sf 18 0) a q = sfT sf a q := fun a q => by
    funext j
    unfold sfT va_up
    by_cases h1 : j = 17
    · simp [h1]
    · by_cases h2 : j = 18 <;> simp [h1, h2]
  refine C.aload_n dX9_treeOf_0 rfl ?_
  refine C.ic dX9_treeOf_1 ?_
  refine C.mput hL pf_X9_65 dX9_treeOf_2 (by decide) rfl ?_
  refine C.aload_n dX9_treeOf_5 rfl ?_
  refine C.iload_n dX9_treeOf_6 rfl ?_
  refine C.si dX9_treeOf_7 (by decide) ?_
  refine C.imulI dX9_treeOf_10 ?_
  refine C.topI (b := ((c * 420 : Nat) : Int)) (by omega) ?_
  refine C.mcall hL (hM) cw_X9_tree ml_X9_72 im_X9_tree sl_X9_tree dX9_treeOf_11 rfl rfl (by omega) (Nat.le_refl _) (Nat.le_refl _) (Nat.le_of_ble_eq_true rfl) rfl (fun r11 sf11 sa11 hR11 => ?_)
  obtain ⟨rfl, hs, h3⟩ := hR11
  rw [hs, e, Nat.zero_add]
  refine C.retI rfl (by first | rfl | (exact (iI_bool (by first | exact Or.inl rfl | exact Or.inr rfl | assumption)).1)) dX9_treeOf_14 (Nat.le_refl _) (Nat.le_refl _) ⟨_, _, ?_, rfl, rfl⟩
  exact ⟨rfl, rfl, h3⟩
theorem ez_fold_and (a : TT) (as : List TT) : ez (as.foldl .and a) = (as.map ez).foldl .and (ez a) := by
  induction as generalizing a with
  | nil => rfl
  | cons b as ih => rw [List.foldl_cons, ih]; rfl
theorem ez_fold_or (a : TT) (as : List TT) : ez (as.foldl .or a) = (as.map ez).foldl .or (ez a) := by
  induction as generalizing a with
  | nil => rfl
  | cons b as ih => rw [List.foldl_cons, ih]; rfl
theorem NK.ez {v : Int} {ts : List TT} {t : TT} (h : NK v ts t) (hn : ∀ c, v = 10 → ts = [c] → ∀ c2, c ≠ .not c2) : NK v (ts.map ez) (ez t) := by
  rcases h with ⟨n, h1, h2, rfl, rfl⟩ | ⟨c, h, rfl, rfl⟩ | ⟨a, b, as, h, rfl, rfl⟩ | ⟨a, b, as, h, rfl, rfl⟩
  · exact Or.inl ⟨n, h1, h2, rfl, rfl⟩
  · exact Or.inr (Or.inl ⟨_, h, rfl, ez_not (hn c h rfl)⟩)
  · exact Or.inr (Or.inr (Or.inl ⟨_, _, _, h, rfl, ez_fold_and a (b :: as)⟩))
  · exact Or.inr (Or.inr (Or.inr ⟨_, _, _, h, rfl, ez_fold_or a (b :: as)⟩))
/-- only 'first' and 'next' of the places fp may differ -/
def FrL (sa sa' : SA) (fp : List Nat) : Prop := (∀ a, a ≠ 30 → a ≠ 31 → sa' a = sa a) ∧ ∀ a j, j ∉ fp → sa' a j = sa a j
theorem FrL.tr {sa sb sc : SA} {l1 l2 l3 : List Nat} (h1 : FrL sa sb l1) (h2 : FrL sb sc l2) (q1 : ∀ k ∈ l1, k ∈ l3) (q2 : ∀ k ∈ l2, k ∈ l3) : FrL sa sc l3 :=
  ⟨fun a x y => (h2.1 a x y).trans (h1.1 a x y), fun a j hj => (h2.2 a j (fun h => hj (q2 j h))).trans (h1.2 a j (fun h => hj (q1 j h)))⟩
theorem nodup_part {qs : List QT} {q : QT} (h : (qs.flatMap (fun q => q.2.2)).Nodup) (hq : q ∈ qs) : q.2.2.Nodup := by
  refine List.Pairwise.sublist ?_ h
  obtain ⟨l1, l2, e⟩ := List.append_of_mem hq
  rw [e, List.flatMap_append, List.flatMap_cons]
  exact (List.sublist_append_left _ _).trans (List.sublist_append_right _ _)
set_option maxRecDepth 20000 in
set_option maxHeartbeats 4000000 in
theorem m_eased : ∀ (n : Nat) {d p : Nat} {t : TT} {fp : List Nat} {sf : SF} {sa : SA}, n + 1 ≤ d → TA (sa 29) (sa 30) (sa 31) n p t fp → fp.Nodup → MM yX9_eased cX9_eased 4 (some .int) d [.int (iI p)] sf sa (fun r sf' sa' => sf' = sf ∧ ∃ (p' : Nat) (fp' : List Nat), r = some (.int (iI p')) ∧ FrL sa sa' fp ∧ TA (sa' 29) (sa' 30) (sa' 31) n p' (ez t) fp' ∧ fp'.Nodup ∧ ∀ k ∈ fp', k ∈ fp) := by
  intro n
  induction n with
  | zero => intro d p t fp sf sa _ h; exact h.elim
  | succ n ih =>
    intro d p t fp sf sa hd h hnd
    obtain ⟨hp, qs, hch, hq, hfp, hnk⟩ := h
    have hrg := hnk.rng
    rw [hfp] at hnd
    have hnd1 := List.nodup_cons.mp hnd
    have hsub : ∀ q ∈ qs, ∀ k ∈ q.2.2, k ∈ fp := fun q hq k hk => by rw [hfp]; exact List.mem_cons_of_mem _ (List.mem_flatMap.mpr ⟨q, hq, hk⟩)
    have hpfp : p ∈ fp := by rw [hfp]; exact List.mem_cons_self
    refine MM.of2 (by decide +kernel) rfl (Nat.le_of_ble_eq_true rfl) (fun L g hL X C => ?_)
    have loop : ∀ (rest qd : List QT) (z : Int) (s : SA), chn (s 31) (s 30 p) (qd.map (fun q => q.1)) → (∀ q ∈ qd, TA (s 29) (s 30) (s 31) n q.1 q.2.1 q.2.2) → chn (s 31) z (rest.map (fun q => q.1)) → (∀ q ∈ rest, TA (s 29) (s 30) (s 31) n q.1 q.2.1 q.2.2) → (p :: (qd.flatMap (fun q => q.2.2) ++ rest.flatMap (fun q => q.2.2))).Nodup → (∀ k ∈ qd.flatMap (fun q => q.2.2), k ∈ fp) → (∀ k ∈ rest.flatMap (fun q => q.2.2), k ∈ fp) → FrL sa s fp → NK (sa 29 p) (qd.map (fun q => q.2.1) ++ rest.map (fun q => ez q.2.1)) (ez t) → ∀ w, X 0 0 L (ov sf s g) 57 [some (.ref 20), some (.int (iI p)), some (.int (iI z)), w] [] := by
      intro rest
      induction rest with
      | nil =>
        intro qd z s hcd hTd hz _ hn2 hsd _ hF hNK w
        have hz : z = -1 := hz
        have e29 : s 29 = sa 29 := hF.1 29 (by decide) (by decide)
        refine C.iload_n dX9_eased_57 rfl ?_
        refine C.if_ltI (tgt := 83) dX9_eased_58 (by decide) (by omega) (fun hc58 => ?_) (fun hc58 => absurd hc58 (by omega))
        refine C.iload_n dX9_eased_83 rfl ?_
        refine C.retI rfl (by first | rfl | (exact (iI_bool (by first | exact Or.inl rfl | exact Or.inr rfl | assumption)).1)) dX9_eased_84 (Nat.le_refl _) (Nat.le_refl _) ⟨_, _, ?_, rfl, rfl⟩
        refine ⟨rfl, p, p :: qd.flatMap (fun q => q.2.2), rfl, hF, ⟨hp, qd, hcd, hTd, rfl, ?_⟩, ?_, ?_⟩
        · rw [e29]; simpa using hNK
        · simpa using hn2
        · intro k hk
          rcases List.mem_cons.mp hk with rfl | hk
          · exact hpfp
          · exact hsd k hk
      | cons q rest ih2 =>
        intro qd z s hcd hTd hz hTr hn2 hsd hsr hF hNK w
        obtain ⟨hz, hz2⟩ : z = (q.1 : Int) ∧ chn (s 31) (s 31 q.1) (rest.map (fun (q : QT) => q.1)) := hz
        have hTq := hTr q List.mem_cons_self
        have hlt := hTq.lt.1
        have hzr : -1 ≤ s 31 q.1 ∧ s 31 q.1 < 1400 := by
          cases rest with
          | nil => have : s 31 q.1 = -1 := hz2; omega
          | cons q2 rest => have h1 := hz2.1; have := (hTr q2 (by simp)).lt.1; simp at h1; omega
        have hn3 := List.nodup_cons.mp hn2
        rw [List.flatMap_cons] at hn3 hsr
        have hn4 := List.nodup_append.mp hn3.2
        have hn5 := List.nodup_append.mp hn4.2.1
        have hpq : p ∉ q.2.2 := fun h => hn3.1 (List.mem_append_right _ (List.mem_append_left _ h))
        have hM := ih (d := d - 1) (sf := sf) (sa := s) (by omega) hTq hn5.1
        subst hz
        refine C.iload_n dX9_eased_57 rfl ?_
        refine C.if_ltI (tgt := 83) dX9_eased_58 (by decide) (by omega) (fun hc58 => absurd hc58 (by omega)) (fun hc58 => ?_)
        refine C.aload_n dX9_eased_61 rfl ?_
        refine C.mget hL gf_X9_42 dX9_eased_62 rfl ?_
        refine C.iload_n dX9_eased_65 rfl ?_
        refine C.maldk hL dX9_eased_66 (by decide) rfl (by decide) rfl (by omega) ?_
        refine C.istore_n dX9_eased_67 (by decide) rfl ?_
        refine C.aload_n dX9_eased_68 rfl ?_
        refine C.iload_n dX9_eased_69 rfl ?_
        refine C.aload_n dX9_eased_70 rfl ?_
        refine C.iload_n dX9_eased_71 rfl ?_
        refine C.mcall hL (hM) cw_X9_eased ml_X9_79 im_X9_eased sl_X9_eased dX9_eased_72 rfl rfl (by omega) (Nat.le_refl _) (Nat.le_refl _) (Nat.le_of_ble_eq_true rfl) rfl (fun r72 sf72 sa72 hR72 => ?_)
        obtain ⟨hs, p', fp', rfl, hF2, hTx, hndx, hsx⟩ := hR72
        rw [hs]
        clear hs
        have hdisD : ∀ k ∈ qd.flatMap (fun q => q.2.2), k ∉ q.2.2 := fun k hk hk2 => hn4.2.2 k hk k (List.mem_append_left _ hk2) rfl
        have hdisR : ∀ k ∈ rest.flatMap (fun q => q.2.2), k ∉ q.2.2 := fun k hk hk2 => hn5.2.2 k hk2 k hk rfl
        have inD : ∀ q2 ∈ qd, ∀ k ∈ q2.2.2, k ∈ qd.flatMap (fun q => q.2.2) := fun q2 h2 k hk => List.mem_flatMap.mpr ⟨q2, h2, hk⟩
        have inR : ∀ q2 ∈ rest, ∀ k ∈ q2.2.2, k ∈ rest.flatMap (fun q => q.2.2) := fun q2 h2 k hk => List.mem_flatMap.mpr ⟨q2, h2, hk⟩
        have hkD : ∀ q2 ∈ qd, TA (sa72 29) (sa72 30) (sa72 31) n q2.1 q2.2.1 q2.2.2 := fun q2 h2 => TA.congr n (hTd q2 h2) (nodup_part hn4.1 h2) (fun k hk => hF2.2 29 k (hdisD k (inD q2 h2 k hk))) (fun k hk => hF2.2 30 k (hdisD k (inD q2 h2 k hk))) (fun k hk _ => hF2.2 31 k (hdisD k (inD q2 h2 k hk)))
        have hkR : ∀ q2 ∈ rest, TA (sa72 29) (sa72 30) (sa72 31) n q2.1 q2.2.1 q2.2.2 := fun q2 h2 => TA.congr n (hTr q2 (List.mem_cons_of_mem _ h2)) (nodup_part hn5.2.1 h2) (fun k hk => hF2.2 29 k (hdisR k (inR q2 h2 k hk))) (fun k hk => hF2.2 30 k (hdisR k (inR q2 h2 k hk))) (fun k hk _ => hF2.2 31 k (hdisR k (inR q2 h2 k hk)))
        have hch2 : chn (sa72 31) (sa72 30 p) (qd.map (fun q => q.1)) := by
          rw [hF2.2 30 p hpq]
          refine chn_congr _ _ (fun k hk => ?_) hcd
          obtain ⟨q2, h2, rfl⟩ := List.mem_map.mp hk
          exact hF2.2 31 _ (hdisD _ (inD q2 h2 _ (hTd q2 h2).lt.2))
        have hTall : ∀ q2 ∈ qd ++ [((p', ez q.2.1, fp') : QT)], TA (sa72 29) (sa72 30) (sa72 31) n q2.1 q2.2.1 q2.2.2 := fun q2 h2 => by
          rcases List.mem_append.mp h2 with h | h
          · exact hkD q2 h
          · rw [List.mem_singleton.mp h]; exact hTx
        have hbig : (p :: ((qd ++ [((p', ez q.2.1, fp') : QT)]).flatMap (fun q => q.2.2) ++ rest.flatMap (fun q => q.2.2))).Nodup := by
          rw [List.flatMap_append, List.flatMap_cons, List.flatMap_nil, List.append_nil]
          refine List.nodup_cons.mpr ⟨fun h => ?_, List.nodup_append.mpr ⟨List.nodup_append.mpr ⟨hn4.1, hndx, fun a ha b hb e => ?_⟩, hn5.2.1, fun a ha b hb e => ?_⟩⟩
          · rcases List.mem_append.mp h with h | h
            · rcases List.mem_append.mp h with h | h
              · exact hn3.1 (List.mem_append_left _ h)
              · exact hpq (hsx p h)
            · exact hn3.1 (List.mem_append_right _ (List.mem_append_right _ h))
          · exact hdisD a ha (by rw [e]; exact hsx b hb)
          · rcases List.mem_append.mp ha with h | h
            · exact hn4.2.2 a h b (List.mem_append_right _ hb) e
            · exact hdisR b hb (by rw [← e]; exact hsx a h)
        have hbig1 := List.nodup_cons.mp hbig
        have hndall : (p :: (qd ++ [((p', ez q.2.1, fp') : QT)]).flatMap (fun q => q.2.2)).Nodup := List.nodup_cons.mpr ⟨fun h => hbig1.1 (List.mem_append_left _ h), (List.nodup_append.mp hbig1.2).1⟩
        have hadd := ptS_add (q0 := ((p', ez q.2.1, fp') : QT)) hch2 hTall hndall
        have hp'q : p' ∈ q.2.2 := hsx p' hTx.lt.2
        have hrootD : ∀ k ∈ qd.map (fun q => q.1), k ∈ qd.flatMap (fun q => q.2.2) := fun k hk => by
          obtain ⟨q2, h2, rfl⟩ := List.mem_map.mp hk
          exact inD q2 h2 _ (hTd q2 h2).lt.2
        have hkeepR : ∀ a k, k ∈ rest.flatMap (fun q => q.2.2) → ptS sa72 (qd.map (fun q => q.1)) p p' a k = sa72 a k := fun a k hk => ptS_fr a k (fun e => by
          rcases e.2 with e | e
          · exact hdisR k hk (by rw [e]; exact hp'q)
          · exact hn4.2.2 k (hrootD k e) k (List.mem_append_right _ hk) rfl) (fun e => hn3.1 (by rw [← e.2]; exact List.mem_append_right _ (List.mem_append_right _ hk)))
        refine C.mcall hL (m_puts (d := d - 1) (into := p) (one := p') (ks := qd.map (fun q => q.1)) hp hTx.lt.1 (fun k hk => by obtain ⟨q2, h2, rfl⟩ := List.mem_map.mp hk; exact (hTd q2 h2).lt.1) (fun h => hdisD p' (hrootD p' h) hp'q) hch2) cw_X9_puts ml_X9_75 im_X9_puts sl_X9_puts dX9_eased_75 rfl rfl (by omega) (Nat.le_refl _) (Nat.le_refl _) (Nat.le_of_ble_eq_true rfl) rfl (fun r75 sf75 sa75 hR75 => ?_)
        obtain ⟨rfl, hs, ha⟩ := hR75
        rw [hs, ha]
        clear hs ha
        refine C.iload_n dX9_eased_78 rfl ?_
        refine C.istore_n dX9_eased_79 (by decide) rfl ?_
        refine C.goto (tgt := 57) dX9_eased_80 (by decide) ?_
        refine ih2 (qd ++ [((p', ez q.2.1, fp') : QT)]) _ _ hadd.1 hadd.2 ?_ ?_ hbig ?_ (fun k hk => hsr k (List.mem_append_right _ hk)) ?_ ?_ _
        · refine chn_congr _ _ (fun k hk => ?_) hz2
          obtain ⟨q2, h2, rfl⟩ := List.mem_map.mp hk
          have h3 := inR q2 h2 _ (hTr q2 (List.mem_cons_of_mem _ h2)).lt.2
          rw [hkeepR 31 _ h3]
          exact hF2.2 31 _ (hdisR _ h3)
        · intro q2 h2
          exact TA.congr n (hkR q2 h2) (nodup_part hn5.2.1 h2) (fun k hk => hkeepR 29 k (inR q2 h2 k hk)) (fun k hk => hkeepR 30 k (inR q2 h2 k hk)) (fun k hk _ => hkeepR 31 k (inR q2 h2 k hk))
        · intro k hk
          rw [List.flatMap_append, List.flatMap_cons, List.flatMap_nil, List.append_nil] at hk
          rcases List.mem_append.mp hk with h | h
          · exact hsd k h
          · exact hsr k (List.mem_append_left _ (hsx k h))
        · refine (hF.tr hF2 (fun k hk => hk) (fun k hk => hsr k (List.mem_append_left _ hk))).tr (l2 := fp) ⟨fun a x y => ?_, fun a j hj => ?_⟩ (fun k hk => hk) (fun k hk => hk)
          · funext j
            exact ptS_fr a j (fun e => y e.1) (fun e => x e.1)
          · refine ptS_fr a j (fun e => ?_) (fun e => hj (by rw [e.2]; exact hpfp))
            rcases e.2 with e | e
            · exact hj (by rw [e]; exact hsr _ (List.mem_append_left _ hp'q))
            · exact hj (hsd j (hrootD j e))
        · rw [List.map_append, List.append_assoc]
          exact hNK
    have enter : (∀ c, sa 29 p = 10 → qs.map (fun q => q.2.1) = [c] → ∀ c2, c ≠ .not c2) → ∀ w, X 0 0 L (ov sf sa g) 43 [some (.ref 20), some (.int (iI p)), w, none] [] := by
      intro hcn w
      have hk2 : ∀ q ∈ qs, TA (va_up sa 30 (va_up (sa 30) p (-1)) 29) (va_up sa 30 (va_up (sa 30) p (-1)) 30) (va_up sa 30 (va_up (sa 30) p (-1)) 31) n q.1 q.2.1 q.2.2 := fun q hqq =>
        TA.congr n (hq q hqq) (nodup_part hnd1.2 hqq) (fun k _ => rfl) (fun k hk => va_up_ne (sa 30) _ (fun e => hnd1.1 (by rw [← e]; exact List.mem_flatMap.mpr ⟨q, hqq, hk⟩))) (fun k _ _ => rfl)
      refine C.aload_n dX9_eased_43 rfl ?_
      refine C.mget hL gf_X9_39 dX9_eased_44 rfl ?_
      refine C.iload_n dX9_eased_47 rfl ?_
      refine C.maldk hL dX9_eased_48 (by decide) rfl (by decide) rfl (by omega) ?_
      refine C.istore_n dX9_eased_49 (by decide) rfl ?_
      refine C.aload_n dX9_eased_50 rfl ?_
      refine C.mget hL gf_X9_39 dX9_eased_51 rfl ?_
      refine C.iload_n dX9_eased_54 rfl ?_
      refine C.ic dX9_eased_55 ?_
      refine C.mastk hL (ovs_30 _ _ _) dX9_eased_56 (by decide) rfl (by decide) rfl (by omega) ?_
      refine loop qs [] (sa 30 p) (va_up sa 30 (va_up (sa 30) p (-1))) ?_ (fun q hq => by cases hq) hch hk2 (by simpa using hnd) (fun k hk => by cases hk) (fun k hk => by rw [hfp]; exact List.mem_cons_of_mem _ hk) ⟨fun a x _ => va_up_ne _ _ x, fun a j hj => ?_⟩ ?_ _
      · exact va_up_self (sa 30) _ _
      · by_cases ha : a = 30
        · subst ha
          exact va_up_ne (sa 30) _ (fun e => hj (by rw [e]; exact hpfp))
        · rw [va_up_ne _ _ ha]
      · have := hnk.ez hcn
        rw [List.map_map] at this
        exact this
    by_cases h10 : sa 29 p = 10
    · obtain ⟨c, hts, rfl⟩ : ∃ c, qs.map (fun q => q.2.1) = [c] ∧ t = .not c := by
        rcases hnk with ⟨n, h1, h2, -, rfl⟩ | ⟨c, h, h3, h4⟩ | ⟨a, b, as, h, -⟩ | ⟨a, b, as, h, -⟩
        · omega
        · exact ⟨c, h3, h4⟩
        · omega
        · omega
      obtain ⟨q, rfl⟩ : ∃ q, qs = [q] := by
        match qs, hts with
        | [q], _ => exact ⟨q, rfl⟩
      obtain rfl : q.2.1 = c := by simpa using hts
      have hq1 := hq q List.mem_cons_self
      have hq1r := hq1.rng
      have hfi : sa 30 p = q.1 := hch.1
      have hlt := hq1.lt.1
      by_cases hn10 : sa 29 q.1 = 10
      · cases n with
        | zero => exact hq1.elim
        | succ n =>
          obtain ⟨-, qs2, hch2, hq2, hfp2, hnk2⟩ := id hq1
          obtain ⟨c2, hts2, e2⟩ : ∃ c, qs2.map (fun q => q.2.1) = [c] ∧ q.2.1 = .not c := by
            rcases hnk2 with ⟨n, h1, h2, -⟩ | ⟨c, h, h3, h4⟩ | ⟨a, b, as, h, -⟩ | ⟨a, b, as, h, -⟩
            · omega
            · exact ⟨c, h3, h4⟩
            · omega
            · omega
          obtain ⟨q2, rfl⟩ : ∃ q, qs2 = [q] := by
            match qs2, hts2 with
            | [q], _ => exact ⟨q, rfl⟩
          obtain rfl : q2.2.1 = c2 := by simpa using hts2
          have hq3 := hq2 q2 List.mem_cons_self
          have hfi2 : sa 30 q.1 = q2.1 := hch2.1
          have hlt2 := hq3.lt.1
          have hqn : q.2.2.Nodup := nodup_part hnd1.2 List.mem_cons_self
          have hsub2 : ∀ k ∈ q2.2.2, k ∈ q.2.2 := fun k hk => by rw [hfp2]; simp; exact Or.inr hk
          have hq2n : q2.2.2.Nodup := by
            rw [hfp2] at hqn
            simpa using (List.nodup_cons.mp hqn).2
          have hM := ih (d := d - 1) (sf := sf) (sa := sa) (by omega) (TA.mono n (by omega) hq3) hq2n
          refine C.aload_n dX9_eased_0 rfl ?_
          refine C.mget hL gf_X9_36 dX9_eased_1 rfl ?_
          refine C.iload_n dX9_eased_4 rfl ?_
          refine C.maldk hL dX9_eased_5 (by decide) rfl (by decide) rfl (by omega) ?_
          refine C.bi dX9_eased_6 (by decide) ?_
          refine C.icmp_neI (tgt := 43) dX9_eased_8 (by decide) (by omega) (by omega) (fun hc8 => absurd hc8 (fun h => h h10)) (fun hc8 => ?_)
          refine C.aload_n dX9_eased_11 rfl ?_
          refine C.mget hL gf_X9_36 dX9_eased_12 rfl ?_
          refine C.aload_n dX9_eased_15 rfl ?_
          refine C.mget hL gf_X9_39 dX9_eased_16 rfl ?_
          refine C.iload_n dX9_eased_19 rfl ?_
          refine C.maldk hL dX9_eased_20 (by decide) rfl (by decide) rfl (by omega) ?_
          refine C.topI (b := (q.1 : Int)) hfi ?_
          refine C.maldk hL dX9_eased_21 (by decide) rfl (by decide) rfl (by omega) ?_
          refine C.bi dX9_eased_22 (by decide) ?_
          refine C.icmp_neI (tgt := 43) dX9_eased_24 (by decide) (by omega) (by omega) (fun hc24 => absurd hc24 (fun h => h hn10)) (fun hc24 => ?_)
          refine C.aload_n dX9_eased_27 rfl ?_
          refine C.aload_n dX9_eased_28 rfl ?_
          refine C.mget hL gf_X9_39 dX9_eased_29 rfl ?_
          refine C.aload_n dX9_eased_32 rfl ?_
          refine C.mget hL gf_X9_39 dX9_eased_33 rfl ?_
          refine C.iload_n dX9_eased_36 rfl ?_
          refine C.maldk hL dX9_eased_37 (by decide) rfl (by decide) rfl (by omega) ?_
          refine C.topI (b := (q.1 : Int)) hfi ?_
          refine C.maldk hL dX9_eased_38 (by decide) rfl (by decide) rfl (by omega) ?_
          refine C.topI (b := (q2.1 : Int)) hfi2 ?_
          refine C.mcall hL (hM) cw_X9_eased ml_X9_79 im_X9_eased sl_X9_eased dX9_eased_39 rfl rfl (by omega) (Nat.le_refl _) (Nat.le_refl _) (Nat.le_of_ble_eq_true rfl) rfl (fun r39 sf39 sa39 hR39 => ?_)
          obtain ⟨hs, p', fp', rfl, hF2, hTx, hndx, hsx⟩ := hR39
          rw [hs]
          clear hs
          refine C.retI rfl (by first | rfl | (exact (iI_bool (by first | exact Or.inl rfl | exact Or.inr rfl | assumption)).1)) dX9_eased_42 (Nat.le_refl _) (Nat.le_refl _) ⟨_, _, ?_, rfl, rfl⟩
          rw [e2]
          exact ⟨rfl, p', fp', rfl, ⟨hF2.1, fun a j hj => hF2.2 a j (fun h => hj (hsub q List.mem_cons_self j (hsub2 j h)))⟩, TA.mono (n + 1) (by omega) hTx, hndx, fun k hk => hsub q List.mem_cons_self k (hsub2 k (hsx k hk))⟩
      · refine C.aload_n dX9_eased_0 rfl ?_
        refine C.mget hL gf_X9_36 dX9_eased_1 rfl ?_
        refine C.iload_n dX9_eased_4 rfl ?_
        refine C.maldk hL dX9_eased_5 (by decide) rfl (by decide) rfl (by omega) ?_
        refine C.bi dX9_eased_6 (by decide) ?_
        refine C.icmp_neI (tgt := 43) dX9_eased_8 (by decide) (by omega) (by omega) (fun hc8 => absurd hc8 (fun h => h h10)) (fun hc8 => ?_)
        refine C.aload_n dX9_eased_11 rfl ?_
        refine C.mget hL gf_X9_36 dX9_eased_12 rfl ?_
        refine C.aload_n dX9_eased_15 rfl ?_
        refine C.mget hL gf_X9_39 dX9_eased_16 rfl ?_
        refine C.iload_n dX9_eased_19 rfl ?_
        refine C.maldk hL dX9_eased_20 (by decide) rfl (by decide) rfl (by omega) ?_
        refine C.topI (b := (q.1 : Int)) hfi ?_
        refine C.maldk hL dX9_eased_21 (by decide) rfl (by decide) rfl (by omega) ?_
        refine C.bi dX9_eased_22 (by decide) ?_
        refine C.icmp_neI (tgt := 43) dX9_eased_24 (by decide) (by omega) (by omega) (fun hc24 => ?_) (fun hc24 => absurd hc24 hn10)
        refine enter ?_ _
        intro c _ hc c2 e
        have : q.2.1 = c := by simpa using hc
        subst this
        cases n with
        | zero => exact hq1.elim
        | succ n =>
          obtain ⟨-, qs2, -, -, -, hnk2⟩ := hq1
          rw [e] at hnk2
          rcases hnk2 with ⟨n, h1, h2, -, h9⟩ | ⟨c, h, h3, h4⟩ | ⟨a, b, as, h, -, h9⟩ | ⟨a, b, as, h, -, h9⟩
          · cases h9
          · exact hn10 h
          · obtain ⟨x, y, e9⟩ := fold_and a b as
            rw [e9] at h9; cases h9
          · obtain ⟨x, y, e9⟩ := fold_or a b as
            rw [e9] at h9; cases h9
    · refine C.aload_n dX9_eased_0 rfl ?_
      refine C.mget hL gf_X9_36 dX9_eased_1 rfl ?_
      refine C.iload_n dX9_eased_4 rfl ?_
      refine C.maldk hL dX9_eased_5 (by decide) rfl (by decide) rfl (by omega) ?_
      refine C.bi dX9_eased_6 (by decide) ?_
      refine C.icmp_neI (tgt := 43) dX9_eased_8 (by decide) (by omega) (by omega) (fun hc8 => ?_) (fun hc8 => absurd hc8 h10)
      exact enter (fun c h => absurd h h10) _
