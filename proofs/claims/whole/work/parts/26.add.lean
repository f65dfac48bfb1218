abbrev QT : Type := Nat × TT × List Nat
theorem chn_snoc {ne : Nat → Int} {cur : Nat} : ∀ (ks : List Nat) (z : Int) (h : ks ≠ []), chn ne z ks → ks.Nodup → cur ∉ ks → chn (va_up (va_up ne cur (-1)) (ks.getLast h) cur) z (ks ++ [cur]) := by
  intro ks
  induction ks with
  | nil => intro z h; exact absurd rfl h
  | cons k ks ih =>
    intro z h hc hnd hcu
    obtain ⟨h1, h2⟩ := hc
    refine ⟨h1, ?_⟩
    cases ks with
    | nil =>
      rw [List.getLast_singleton, va_up_self]
      refine ⟨rfl, ?_⟩
      rw [va_up_ne _ _ (fun e => hcu (by rw [e]; exact List.mem_cons_self)), va_up_self]
      rfl
    | cons k2 ks =>
      rw [List.getLast_cons (List.cons_ne_nil _ _)]
      have hk1 : k ≠ (k2 :: ks).getLast (List.cons_ne_nil _ _) := fun e => (List.nodup_cons.mp hnd).1 (by rw [e]; exact List.getLast_mem _)
      rw [va_up_ne _ _ hk1, va_up_ne _ _ (fun e => hcu (by rw [← e]; exact List.mem_cons_self))]
      exact ih _ (List.cons_ne_nil _ _) h2 (List.nodup_cons.mp hnd).2 (fun e => hcu (List.mem_cons_of_mem _ e))
theorem ptS_fr {s : SA} {ks : List Nat} {pl cur : Nat} : ∀ a j, ¬ (a = 31 ∧ (j = cur ∨ j ∈ ks)) → ¬ (a = 30 ∧ j = pl) → ptS s ks pl cur a j = s a j := by
  intro a j h1 h2
  cases ks with
  | nil =>
    show va_up (va_up s 31 (va_up (s 31) cur (-1))) 30 (va_up (s 30) pl cur) a j = s a j
    by_cases ha : a = 30
    · subst ha
      rw [va_up_self, va_up_ne _ _ (fun e => h2 ⟨rfl, e⟩)]
    · rw [va_up_ne _ _ ha]
      by_cases hb : a = 31
      · subst hb
        rw [va_up_self, va_up_ne _ _ (fun e => h1 ⟨rfl, Or.inl e⟩)]
      · rw [va_up_ne _ _ hb]
  | cons k ks =>
    show va_up s 31 (va_up (va_up (s 31) cur (-1)) ((k :: ks).getLast (List.cons_ne_nil _ _)) cur) a j = s a j
    by_cases hb : a = 31
    · subst hb
      rw [va_up_self, va_up_ne _ _ (fun e => h1 ⟨rfl, Or.inr (by rw [e]; exact List.getLast_mem _)⟩), va_up_ne _ _ (fun e => h1 ⟨rfl, Or.inl e⟩)]
    · rw [va_up_ne _ _ hb]
theorem nodup_root {wh fi ne : Nat → Int} {n : Nat} : ∀ (qs : List QT), (∀ q ∈ qs, TA wh fi ne n q.1 q.2.1 q.2.2) → (qs.flatMap (fun q => q.2.2)).Nodup → (qs.map (fun q => q.1)).Nodup
  | [], _, _ => List.nodup_nil
  | q :: qs, h, hn => by
    rw [List.flatMap_cons] at hn
    have hn2 := List.nodup_append.mp hn
    rw [List.map_cons, List.nodup_cons]
    refine ⟨fun hm => ?_, nodup_root qs (fun q hq => h q (List.mem_cons_of_mem _ hq)) hn2.2.1⟩
    obtain ⟨q2, hq2, e⟩ := List.mem_map.mp hm
    exact hn2.2.2 q.1 (h q List.mem_cons_self).lt.2 q.1 (List.mem_flatMap.mpr ⟨q2, hq2, by rw [← e]; exact (h q2 (List.mem_cons_of_mem _ hq2)).lt.2⟩) rfl
/-- one more tree put below pl -/
theorem ptS_add {s : SA} {N pl : Nat} {qs : List QT} {q0 : QT} (hch : chn (s 31) (s 30 pl) (qs.map (fun q => q.1))) (hTA : ∀ q ∈ qs ++ [q0], TA (s 29) (s 30) (s 31) N q.1 q.2.1 q.2.2) (hnd : (pl :: (qs ++ [q0]).flatMap (fun q => q.2.2)).Nodup) :
    chn (ptS s (qs.map (fun q => q.1)) pl q0.1 31) (ptS s (qs.map (fun q => q.1)) pl q0.1 30 pl) ((qs ++ [q0]).map (fun q => q.1)) ∧ ∀ q ∈ qs ++ [q0], TA (ptS s (qs.map (fun q => q.1)) pl q0.1 29) (ptS s (qs.map (fun q => q.1)) pl q0.1 30) (ptS s (qs.map (fun q => q.1)) pl q0.1 31) N q.1 q.2.1 q.2.2 := by
  have hnd1 := List.nodup_cons.mp hnd
  have hroot := nodup_root _ hTA hnd1.2
  rw [List.map_append] at hroot
  have hroot2 := List.nodup_append.mp hroot
  have hcu : q0.1 ∉ qs.map (fun q => q.1) := fun h => hroot2.2.2 _ h _ List.mem_cons_self rfl
  refine ⟨?_, fun q hq => ?_⟩
  · rw [List.map_append]
    cases hqs : qs.map (fun q => q.1) with
    | nil =>
      show chn (va_up (s 31) q0.1 (-1)) (va_up (s 30) pl q0.1 pl) [q0.1]
      rw [va_up_self]
      exact ⟨rfl, va_up_self _ _ _⟩
    | cons k ks =>
      have h1 := chn_snoc (ne := s 31) (cur := q0.1) (k :: ks) (s 30 pl) (List.cons_ne_nil _ _) (by rw [← hqs]; exact hch) (by rw [← hqs]; exact hroot2.1) (by rw [← hqs]; exact hcu)
      exact h1
  · have hsub : ∀ k ∈ q.2.2, k ∈ (qs ++ [q0]).flatMap (fun q => q.2.2) := fun k hk => List.mem_flatMap.mpr ⟨q, hq, hk⟩
    have hndq : q.2.2.Nodup := by
      refine List.Pairwise.sublist ?_ hnd1.2
      obtain ⟨l1, l2, e⟩ := List.append_of_mem hq
      rw [e, List.flatMap_append, List.flatMap_cons]
      exact (List.sublist_append_left _ _).trans (List.sublist_append_right _ _)
    refine TA.congr N (hTA q hq) hndq (fun k _ => ptS_fr _ _ (by simp) (by simp)) (fun k hk => ptS_fr _ _ (by simp) (fun e => hnd1.1 (by rw [← e.2]; exact hsub k hk))) (fun k hk hkq => ptS_fr _ _ (fun e => ?_) (by simp))
    -- a root in q's places is q's own
    have hr : ∃ q2 ∈ qs ++ [q0], q2.1 = k := by
      rcases e.2 with e | e
      · exact ⟨q0, List.mem_append_right _ List.mem_cons_self, e.symm⟩
      · obtain ⟨q2, h2, h3⟩ := List.mem_map.mp e
        exact ⟨q2, List.mem_append_left _ h2, h3⟩
    obtain ⟨q2, h2, rfl⟩ := hr
    have hk2 := (hTA q2 h2).lt.2
    obtain ⟨l1, l2, el⟩ := List.append_of_mem hq
    rw [el] at h2 hnd1
    rw [List.flatMap_append, List.flatMap_cons] at hnd1
    have hA := List.nodup_append.mp hnd1.2
    have hB := List.nodup_append.mp hA.2.1
    rcases List.mem_append.mp h2 with h | h
    · exact hA.2.2 q2.1 (List.mem_flatMap.mpr ⟨q2, h, hk2⟩) q2.1 (List.mem_append_left _ hk) rfl
    · rcases List.mem_cons.mp h with h | h
      · exact hkq (by rw [h])
      · exact hB.2.2 q2.1 hk q2.1 (List.mem_flatMap.mpr ⟨q2, h, hk2⟩) rfl
