/-! the class's letters -/
/-- the thing q is the sentence x, no deeper than it may be -/
def SW (L : List Nat) (f : Nat → AC) (q : Nat) (x : Sen) : Prop := ∃ D, SAt L f D q x ∧ SOk x ∧ D + (if isS x.2.2.2 then 2 else 0) ≤ 29
/-- the letter lt holds the sentences ps in the row e -/
def LtAt (L : List Nat) (f : Nat → AC) (lt e : Nat) (ps : List (Nat × Sen)) : Prop := (lt < 36 ∧ lt ∈ L ∧ f lt = .inr (4, [.ref (lt + 1)])) ∧ (∃ cap, LsAt L f (lt + 1) e cap (ps.map (fun p => p.1))) ∧ ∀ p ∈ ps, SW L f p.1 p.2
/-- the letter holds the sentences ys now, all else is as it was -/
def LtPo (L : List Nat) (f : Nat → AC) (lt e : Nat) (r0 : Option Value) (ys : List Sen) : AT := fun r L' f' => r = r0 ∧ ∃ e' ps', ps'.map (fun p => p.2) = ys ∧ LtAt L' f' lt e' ps' ∧ FqL (lt + 1) e L f L' f' ∧ (e' = e ∨ (e' ∉ L ∧ 2000 ≤ e'))
section LETT
variable {d lt e k cap q : Nat} {L L' L1 L2 : List Nat} {f f' f1 f2 : Nat → AC} {ps : List (Nat × Sen)} {x : Sen} {xs : List Nat}
theorem SW.keep (h : SW L f q x) (hF : Fp L f L' f') : SW L' f' q x := by
  obtain ⟨D, h1, h2⟩ := h
  exact ⟨D, h1.keep hF, h2⟩
theorem SW.obj (h : SW L f q x) : q ∈ L ∧ 2000 ≤ q ∧ ∃ fs, f q = .inr (6, fs) := by
  obtain ⟨D, ⟨⟨h1, h2⟩, e, w, u, h3, -⟩, -⟩ := h
  exact ⟨h1, h2, _, h3⟩
theorem SW.a29 (h : SW L f q x) : SAt L f 29 q x ∧ SOk x := by
  obtain ⟨D, h1, h2, h3⟩ := h
  exact ⟨h1.mono (by omega), h2⟩
theorem LsAt.obj (h : LsAt L f k e cap xs) : k ∈ L ∧ e ∈ L ∧ (∃ m n, f k = aL m e n) ∧ ∃ n gr, f e = aQ n gr := by
  obtain ⟨⟨m, gr, h1, h2, -⟩, ⟨h3, h4⟩, -⟩ := h
  exact ⟨h3, h4, ⟨m, _, h1⟩, _, gr, h2⟩
theorem Fo.ql (h : Fo L f L' f') : FqL k e L f L' f' := ⟨h.1, fun q hq _ _ => h.2 q hq⟩
theorem FqL.rf : FqL k e L f L f := Fo.rf.ql
theorem FqL.tr {e1 : Nat} (h1 : FqL k e L f L1 f1) (h2 : FqL k e1 L1 f1 L2 f2) (he : e1 = e ∨ (e1 ∉ L ∧ 2000 ≤ e1)) : FqL k e L f L2 f2 :=
  ⟨fun q hq => h2.1 q (h1.1 q hq), fun q hq hk h17 => by
    rw [h2.2 q (h1.1 q hq) hk (fun hqe => by
      rcases he with rfl | ⟨hn, -⟩
      · exact h17 hqe
      · exact absurd (hqe ▸ hq) hn), h1.2 q hq hk h17]⟩
theorem FqL.p (h : FqL k e L f L' f') (hk : k < 2000) (he : ∃ n gr, f e = aQ n gr) : Fp L f L' f' :=
  ⟨h.1, fun q hq h2 h5 => h.2 q hq (by omega) (fun hqe => by
    obtain ⟨n, gr, hg⟩ := he
    subst hqe
    exact absurd hg (h5 n _))⟩
theorem LsAt.keepQ {k2 e2 cap2 : Nat} {xs2 : List Nat} (h : LsAt L f k e cap xs) (h2 : LsAt L f k2 e2 cap2 xs2) (hF : FqL k2 e2 L f L' f') (hk : k ≠ k2) (hee : e = e2 → e = 17) : LsAt L' f' k e cap xs := by
  obtain ⟨⟨m, gr, h1, h2', h3, h4⟩, ⟨h5, h6⟩, h7⟩ := h
  obtain ⟨-, -, ⟨m2, n2, hf2⟩, n3, g3, hf3⟩ := h2.obj
  have hke2 : k ≠ e2 := fun he => by rw [← he, h1] at hf3; cases hf3
  have hek2 : e ≠ k2 := fun he => by rw [← he, h2'] at hf2; cases hf2
  refine ⟨⟨m, gr, ?_, ?_, h3, fun i y hy => ?_⟩, ⟨hF.1 _ h5, hF.1 _ h6⟩, h7⟩
  · rw [hF.2 k h5 hk (fun he => absurd he hke2)]; exact h1
  · rw [hF.2 e h6 hek2 hee]; exact h2'
  · obtain ⟨hyL, fs, hfy⟩ := h4 i y hy
    refine ⟨hF.1 y hyL, fs, ?_⟩
    rw [hF.2 y hyL (fun he => by rw [he, hf2] at hfy; cases hfy) (fun he => by rw [he, hf3] at hfy; cases hfy)]
    exact hfy
theorem LsAt.keepO (h : LsAt L f k e cap xs) (hF : Fo L f L' f') : LsAt L' f' k e cap xs := by
  obtain ⟨⟨m, gr, h1, h2', h3, h4⟩, ⟨h5, h6⟩, h7⟩ := h
  refine ⟨⟨m, gr, ?_, ?_, h3, fun i y hy => ?_⟩, ⟨hF.1 _ h5, hF.1 _ h6⟩, h7⟩
  · rw [hF.2 k h5]; exact h1
  · rw [hF.2 e h6]; exact h2'
  · obtain ⟨hyL, fs, hfy⟩ := h4 i y hy
    exact ⟨hF.1 y hyL, fs, (hF.2 y hyL).trans hfy⟩
theorem LtAt.keepO (h : LtAt L f lt e ps) (hF : Fo L f L' f') : LtAt L' f' lt e ps := by
  obtain ⟨⟨h0, h1, h2⟩, ⟨cap, h3⟩, h4⟩ := h
  exact ⟨⟨h0, hF.1 _ h1, (hF.2 _ h1).trans h2⟩, ⟨cap, h3.keepO hF⟩, fun p hp => (h4 p hp).keep hF.p⟩
theorem LtAt.keepQ {k2 e2 cap2 : Nat} {xs2 : List Nat} (h : LtAt L f lt e ps) (h2 : LsAt L f k2 e2 cap2 xs2) (hF : FqL k2 e2 L f L' f') (hk2 : k2 < 2000) (hk0 : lt ≠ k2) (hk : lt + 1 ≠ k2) (hee : e = e2 → e = 17) : LtAt L' f' lt e ps := by
  obtain ⟨⟨h0, h1, hf1⟩, ⟨cap, h3⟩, h4⟩ := h
  obtain ⟨-, -, -, n3, g3, hf3⟩ := h2.obj
  exact ⟨⟨h0, hF.1 _ h1, (hF.2 _ h1 hk0 (fun he => by rw [← he, hf1] at hf3; cases hf3)).trans hf1⟩, ⟨cap, h3.keepQ h2 hF hk hee⟩, fun p hp => (h4 p hp).keep (hF.p hk2 ⟨n3, g3, hf3⟩)⟩
theorem LtAt.to {e' cap' : Nat} {ps' : List (Nat × Sen)} (h : LtAt L f lt e ps) (hF : FqL (lt + 1) e L f L' f') (hls : LsAt L' f' (lt + 1) e' cap' (ps'.map (fun p => p.1))) (hps : ∀ p ∈ ps', SW L f p.1 p.2) : LtAt L' f' lt e' ps' := by
  obtain ⟨⟨h0, h1, hf1⟩, ⟨cap, h3⟩, h4⟩ := h
  obtain ⟨-, -, -, n3, g3, hf3⟩ := h3.obj
  exact ⟨⟨h0, hF.1 _ h1, (hF.2 _ h1 (by omega) (fun he => by rw [← he, hf1] at hf3; cases hf3)).trans hf1⟩, ⟨cap', hls⟩, fun p hp => (hps p hp).keep (hF.p (by omega) ⟨n3, g3, hf3⟩)⟩
theorem lt_size (h : LtAt L f lt e ps) : AM yJx4a65c_size_8abf5 cJx4a65c_size_8abf5 1 (some .int) d 0 0 [.ref (lt + 1)] L f (SP (some (.int (iI ps.length))) L f) := by
  obtain ⟨-, ⟨cap, hls⟩, -⟩ := h
  have M := l_size (d := d) hls
  rw [List.length_map] at M
  exact M
theorem lt_get {i : Nat} {p : Nat × Sen} (hd : 2 ≤ d) (h : LtAt L f lt e ps) (hp : ps[i]? = some p) : AM yJx4a65c_get_915e3 cJx4a65c_get_915e3 2 (some (.object "java/lang/Object")) d 0 0 [.ref (lt + 1), .int (iI i)] L f (SP (some (.ref p.1)) L f) := by
  obtain ⟨-, ⟨cap, hls⟩, -⟩ := h
  exact l_get hd hls (by rw [List.getElem?_map, hp]; rfl)
theorem lt_set {i v : Nat} (hd : 2 ≤ d) (h : LtAt L f lt e ps) (hi : i < ps.length) (hv : SW L f v x) : AM yJx4a65c_set_bcc79 cJx4a65c_set_bcc79 4 (some (.object "java/lang/Object")) d 0 0 [.ref (lt + 1), .int (iI i), .ref v] L f (fun r L' f' => (∃ y, r = some (.ref y)) ∧ L' = L ∧ LtAt L f' lt e (ps.set i (v, x)) ∧ FqL (lt + 1) e L f L f') := by
  have hh := h
  obtain ⟨-, ⟨cap, hls⟩, hsw⟩ := h
  obtain ⟨hvL, -, fs, hfv⟩ := hv.obj
  refine (l_set hd hls (by rw [List.length_map]; exact hi) hvL hfv).imp (fun r L' f' hq => ?_)
  obtain ⟨h1, h2, h3, h4, -⟩ := hq
  refine ⟨h1, h2, hh.to h4 (cap' := cap) (by rw [List.map_set]; exact h3) (fun p hp => ?_), h4⟩
  rcases List.mem_or_eq_of_mem_set hp with h | rfl
  · exact hsw p h
  · exact hv
theorem lt_add {v : Nat} (hd : 6 ≤ d) (h : LtAt L f lt e ps) (hl : ps.length < 24) (hv : SW L f v x) : AM yJx4a65c_add_9ea2d cJx4a65c_add_9ea2d 2 (some .boolean) d 1 40 [.ref (lt + 1), .ref v] L f (fun r L' f' => r = some (.int (iI 1)) ∧ ∃ e', LtAt L' f' lt e' (ps ++ [(v, x)]) ∧ FqL (lt + 1) e L f L' f' ∧ (e' = e ∨ (e' ∉ L ∧ 2000 ≤ e'))) := by
  have hh := h
  obtain ⟨-, ⟨cap, hls⟩, hsw⟩ := h
  obtain ⟨hvL, -, fs, hfv⟩ := hv.obj
  refine (l_add hd hls (by rw [List.length_map]; exact hl) hvL hfv).imp (fun r L' f' hq => ?_)
  obtain ⟨h1, e', cap', h2, h3, h4⟩ := hq
  refine ⟨h1, e', hh.to h3 (cap' := cap') (by rw [List.map_append]; exact h2) (fun p hp => ?_), h3, h4⟩
  rcases List.mem_append.mp hp with h | h
  · exact hsw p h
  · rw [List.mem_singleton.mp h]; exact hv
theorem lt_clear (h : LtAt L f lt e ps) : AM yJx4a65c_clear_da8c8 cJx4a65c_clear_da8c8 4 none d 0 0 [.ref (lt + 1)] L f (fun r L' f' => r = none ∧ L' = L ∧ LtAt L f' lt e [] ∧ FqL (lt + 1) e L f L f') := by
  have hh := h
  obtain ⟨-, ⟨cap, hls⟩, hsw⟩ := h
  refine (l_clear hls).imp (fun r L' f' hq => ?_)
  obtain ⟨h1, h2, h3, h4⟩ := hq
  exact ⟨h1, h2, hh.to h4 (cap' := cap) (ps' := []) h3 (fun p hp => by cases hp), h4⟩
theorem lt_remove {i : Nat} (hd : 2 ≤ d) (h : LtAt L f lt e ps) (hi : i < ps.length) : AM yJx4a65c_remove_915e3 cJx4a65c_remove_915e3 4 (some (.object "java/lang/Object")) d 0 0 [.ref (lt + 1), .int (iI i)] L f (fun r L' f' => (∃ y, r = some (.ref y)) ∧ L' = L ∧ LtAt L f' lt e (ps.take i ++ ps.drop (i + 1)) ∧ FqL (lt + 1) e L f L f') := by
  have hh := h
  obtain ⟨-, ⟨cap, hls⟩, hsw⟩ := h
  refine (l_remove hd hls (by rw [List.length_map]; exact hi)).imp (fun r L' f' hq => ?_)
  obtain ⟨h1, h2, h3, h4⟩ := hq
  refine ⟨h1, h2, hh.to h4 (cap' := cap) (by rw [List.map_append, List.map_take, List.map_drop, ← List.eraseIdx_eq_take_drop_succ]; exact h3) (fun p hp => ?_), h4⟩
  rcases List.mem_append.mp hp with h | h
  · exact hsw p (List.mem_of_mem_take h)
  · exact hsw p (List.mem_of_mem_drop h)
theorem lt_addAt {i v : Nat} (hd : 5 ≤ d) (h : LtAt L f lt e ps) (hi : i ≤ ps.length) (hl : ps.length < 24) (hv : SW L f v x) : AM yJx4a65c_add_7a177 cJx4a65c_add_7a177 5 none d 1 40 [.ref (lt + 1), .int (iI i), .ref v] L f (fun r L' f' => r = none ∧ ∃ e', LtAt L' f' lt e' (ps.take i ++ (v, x) :: ps.drop i) ∧ FqL (lt + 1) e L f L' f' ∧ (e' = e ∨ (e' ∉ L ∧ 2000 ≤ e'))) := by
  have hh := h
  obtain ⟨-, ⟨cap, hls⟩, hsw⟩ := h
  obtain ⟨hvL, -, fs, hfv⟩ := hv.obj
  refine (l_addAt hd hls (by rw [List.length_map]; exact hi) (by rw [List.length_map]; exact hl) hvL hfv).imp (fun r L' f' hq => ?_)
  obtain ⟨h1, e', cap', h2, h3, h4⟩ := hq
  refine ⟨h1, e', hh.to h3 (cap' := cap') (by rw [List.map_append, List.map_cons, List.map_take, List.map_drop]; exact h2) (fun p hp => ?_), h3, h4⟩
  rcases List.mem_append.mp hp with h | h
  · exact hsw p (List.mem_of_mem_take h)
  · rcases List.mem_cons.mp h with rfl | h
    · exact hv
    · exact hsw p (List.mem_of_mem_drop h)
theorem t_size (hd : 1 ≤ d) (h : LtAt L f lt e ps) : AM yX1_size cX1_size 1 (some .int) d 0 0 [.ref lt] L f (SP (some (.int (iI ps.length))) L f) := by
  have M := lt_size (d := d - 1) h
  obtain ⟨⟨-, hlt, hflt⟩, ⟨cap, hls⟩, hsw⟩ := h
  obtain ⟨hkL, -, ⟨m, n, hfk⟩, -⟩ := hls.obj
  refine AM.of (by decide +kernel) (by simp [Value.category]) (Nat.le_of_ble_eq_true rfl) false (fun h => by cases h) (fun X C => ?_)
  refine C.aload_n dX1_size_0 rfl ?_
  refine C.getf gf_X1_12 dX1_size_1 hlt hflt rfl ?_
  refine C.callV (M) cw_Jx4a65c_size_8abf5 ml_X1_18 im_Jx4a65c_size_8abf5 sl_Jx4a65c_size_8abf5 dX1_size_4 hkL hfk rfl rfl (by omega) (Nat.le_refl _) (Nat.le_refl _) (Nat.le_of_ble_eq_true rfl) rfl (fun r4 L4 f4 hR4 => ?_)
  obtain ⟨rfl, hL9, hf9⟩ := hR4
  rw [hL9, hf9]
  clear hL9 hf9
  refine C.retI rfl (by first | rfl | (exact (iI_bool (by first | exact Or.inl rfl | exact Or.inr rfl | assumption)).1)) dX1_size_7 (Nat.le_refl _) (Nat.le_refl _) ⟨rfl, rfl, rfl⟩
  skip
theorem t_at {i : Nat} {p : Nat × Sen} (hd : 3 ≤ d) (h : LtAt L f lt e ps) (hp : ps[i]? = some p) : AM yX1_at cX1_at 2 (some (.object "PlainWords$Sentence")) d 0 0 [.ref lt, .int (iI i)] L f (SP (some (.ref p.1)) L f) := by
  have M := lt_get (d := d - 1) (by omega) h hp
  obtain ⟨⟨-, hlt, hflt⟩, ⟨cap, hls⟩, hsw⟩ := h
  obtain ⟨hkL, -, ⟨m, n, hfk⟩, -⟩ := hls.obj
  obtain ⟨hpL, -, fs, hfp⟩ := (hsw p (List.mem_of_getElem? hp)).obj
  refine AM.of (by decide +kernel) (by simp [Value.category]) (Nat.le_of_ble_eq_true rfl) false (fun h => by cases h) (fun X C => ?_)
  refine C.aload_n dX1_at_0 rfl ?_
  refine C.getf gf_X1_12 dX1_at_1 hlt hflt rfl ?_
  refine C.iload_n dX1_at_4 rfl ?_
  refine C.callV (M) cw_Jx4a65c_get_915e3 ml_X1_22 im_Jx4a65c_get_915e3 sl_Jx4a65c_get_915e3 dX1_at_5 hkL hfk rfl rfl (by omega) (Nat.le_refl _) (Nat.le_refl _) (Nat.le_of_ble_eq_true rfl) rfl (fun r5 L5 f5 hR5 => ?_)
  obtain ⟨rfl, hL9, hf9⟩ := hR5
  rw [hL9, hf9]
  clear hL9 hf9
  refine C.castS dX1_at_8 (om_wsL_law0_r19 _ (List.mem_of_getElem? (i := 21) rfl)) hpL hfp ?_
  refine C.aret rfl (Or.inl ⟨_, rfl⟩) dX1_at_11 (Nat.le_refl _) (Nat.le_refl _) ⟨rfl, rfl, rfl⟩
  skip
theorem t_clear (hd : 1 ≤ d) (h : LtAt L f lt e ps) : AM yX1_clear cX1_clear 1 none d 0 0 [.ref lt] L f (fun r L' f' => r = none ∧ L' = L ∧ LtAt L f' lt e [] ∧ FqL (lt + 1) e L f L f') := by
  have M := lt_clear (d := d - 1) h
  obtain ⟨⟨-, hlt, hflt⟩, ⟨cap, hls⟩, hsw⟩ := h
  obtain ⟨hkL, -, ⟨m, n, hfk⟩, -⟩ := hls.obj
  refine AM.of (by decide +kernel) (by simp [Value.category]) (Nat.le_of_ble_eq_true rfl) false (fun h => by cases h) (fun X C => ?_)
  refine C.aload_n dX1_clear_0 rfl ?_
  refine C.getf gf_X1_12 dX1_clear_1 hlt hflt rfl ?_
  refine C.callV (M) cw_Jx4a65c_clear_da8c8 ml_X1_28 im_Jx4a65c_clear_da8c8 sl_Jx4a65c_clear_da8c8 dX1_clear_4 hkL hfk rfl rfl (by omega) (Nat.le_refl _) (Nat.le_refl _) (Nat.le_of_ble_eq_true rfl) rfl (fun r4 L4 f4 hR4 => ?_)
  obtain ⟨rfl, rfl, h3, h4⟩ := hR4
  refine C.vret rfl dX1_clear_7 (Nat.le_refl _) (Nat.le_refl _) ⟨rfl, rfl, h3, h4⟩
  skip
theorem t_add {v : Nat} (hd : 7 ≤ d) (h : LtAt L f lt e ps) (hl : ps.length < 24) (hv : SW L f v x) : AM yX1_add cX1_add 2 none d 1 40 [.ref lt, .ref v] L f (fun r L' f' => r = none ∧ ∃ e', LtAt L' f' lt e' (ps ++ [(v, x)]) ∧ FqL (lt + 1) e L f L' f' ∧ (e' = e ∨ (e' ∉ L ∧ 2000 ≤ e'))) := by
  have M := lt_size (d := d - 1) h
  have M2 := lt_add (d := d - 1) (by omega) h hl hv
  obtain ⟨⟨-, hlt, hflt⟩, ⟨cap, hls⟩, hsw⟩ := h
  obtain ⟨hkL, -, ⟨m, n, hfk⟩, -⟩ := hls.obj
  refine AM.of (by decide +kernel) (by simp [Value.category]) (Nat.le_of_ble_eq_true rfl) false (fun h => by cases h) (fun X C => ?_)
  refine C.aload_n dX1_add_0 rfl ?_
  refine C.getf gf_X1_12 dX1_add_1 hlt hflt rfl ?_
  refine C.callV (M) cw_Jx4a65c_size_8abf5 ml_X1_18 im_Jx4a65c_size_8abf5 sl_Jx4a65c_size_8abf5 dX1_add_4 hkL hfk rfl rfl (by omega) (Nat.zero_le _) (Nat.zero_le _) (Nat.le_of_ble_eq_true rfl) rfl (fun r4 L4 f4 hR4 => ?_)
  obtain ⟨rfl, hL9, hf9⟩ := hR4
  rw [hL9, hf9]
  clear hL9 hf9
  refine C.bi dX1_add_7 (by decide) ?_
  refine C.icmp_geI (tgt := 21) dX1_add_9 (by decide) (by omega) (by omega) (fun hc9 => absurd hc9 (by omega)) (fun hc9 => ?_)
  refine C.aload_n dX1_add_12 rfl ?_
  refine C.getf gf_X1_12 dX1_add_13 hlt hflt rfl ?_
  refine C.aload_n dX1_add_16 rfl ?_
  refine C.callV (M2) cw_Jx4a65c_add_9ea2d ml_X1_31 im_Jx4a65c_add_9ea2d sl_Jx4a65c_add_9ea2d dX1_add_17 hkL hfk rfl rfl (by omega) (Nat.le_refl _) (Nat.le_refl _) (Nat.le_of_ble_eq_true rfl) rfl (fun r17 L17 f17 hR17 => ?_)
  obtain ⟨rfl, hq⟩ := hR17
  refine C.pop dX1_add_20 rfl ?_
  refine C.vret rfl dX1_add_21 (Nat.le_refl _) (Nat.le_refl _) ⟨rfl, hq⟩
  skip
theorem t_become {lt2 e2 : Nat} {ps2 : List (Nat × Sen)} (hd : 8 ≤ d) (h : LtAt L f lt e ps) (h2 : LtAt L f lt2 e2 ps2) (hn1 : lt2 ≠ lt) (hn2 : lt2 ≠ lt + 1) (hee : e2 = e → e2 = 17) (hl : ps2.length ≤ 24) : AM yX1_become cX1_become 3 none d ps2.length (40 * ps2.length) [.ref lt, .ref lt2] L f (LtPo L f lt e none (ps2.map (fun p => p.2))) := by
  have M := lt_clear (d := d - 1) h
  have hh := h
  have h36 := h.1.1
  obtain ⟨⟨-, hlt, hflt⟩, ⟨cap, hls⟩, hsw⟩ := h
  obtain ⟨hkL, -, ⟨m, n, hfk⟩, -⟩ := hls.obj
  refine AM.of (by decide +kernel) (by simp [Value.category]) (Nat.le_of_ble_eq_true rfl) false (fun h => by cases h) (fun X C => ?_)
  have loop : ∀ (n i : Nat) (L1 : List Nat) (f1 : Nat → AC) (e1 : Nat) (ps1 : List (Nat × Sen)), i + n = ps2.length → ps1.map (fun p => p.2) = (ps2.map (fun p => p.2)).take i → LtAt L1 f1 lt e1 ps1 → LtAt L1 f1 lt2 e2 ps2 → FqL (lt + 1) e L f L1 f1 → (e1 = e ∨ (e1 ∉ L ∧ 2000 ≤ e1)) → (e2 = e1 → e2 = 17) → X i (40 * i) L1 f1 9 [some (.ref lt), some (.ref lt2), some (.int (iI i))] [] := by
    intro n
    induction n with
    | zero =>
      intro i L1 f1 e1 ps1 hi hps hA hB hF he1 he2
      have M1 := t_size (d := d - 1) (by omega) hB
      obtain ⟨-, hlt2, hflt2⟩ := hB.1
      rw [List.take_of_length_le (by rw [List.length_map]; omega)] at hps
      refine C.iload_n dX1_become_9 rfl ?_
      refine C.aload_n dX1_become_10 rfl ?_
      refine C.callV (M1) cw_X1_size ml_X1_35 im_X1_size sl_X1_size dX1_become_11 hlt2 hflt2 rfl rfl (by omega) (by omega) (by omega) (Nat.le_of_ble_eq_true rfl) rfl (fun r11 L11 f11 hR11 => ?_)
      obtain ⟨rfl, hL9, hf9⟩ := hR11
      rw [hL9, hf9]
      clear hL9 hf9
      refine C.icmp_geI (tgt := 32) dX1_become_14 (by decide) (by omega) (by omega) (fun hc14 => ?_) (fun hc14 => absurd hc14 (by omega))
      refine C.vret rfl dX1_become_32 (by omega) (by omega) ⟨rfl, e1, ps1, hps, hA, hF, he1⟩
      skip
    | succ n ih =>
      intro i L1 f1 e1 ps1 hi hps hA hB hF he1 he2
      have M1 := t_size (d := d - 1) (by omega) hB
      have hpi : ps2[i]? = some (ps2[i]'(by omega)) := List.getElem?_eq_getElem _
      generalize ps2[i]'(by omega) = p at hpi
      have M2 := t_at (d := d - 1) (by omega) hB hpi
      have hlen : ps1.length ≤ i := by
        have := congrArg List.length hps
        rw [List.length_map, List.length_take] at this
        omega
      have M3 := t_add (d := d - 1) (by omega) hA (by omega) (hB.2.2 p (List.mem_of_getElem? hpi))
      obtain ⟨-, hlt1, hflt1⟩ := hA.1
      obtain ⟨-, hlt2, hflt2⟩ := hB.1
      obtain ⟨cap1, hls1⟩ := hA.2.1
      obtain ⟨cap2, hls2⟩ := hB.2.1
      refine C.iload_n dX1_become_9 rfl ?_
      refine C.aload_n dX1_become_10 rfl ?_
      refine C.callV (M1) cw_X1_size ml_X1_35 im_X1_size sl_X1_size dX1_become_11 hlt2 hflt2 rfl rfl (by omega) (by omega) (by omega) (Nat.le_of_ble_eq_true rfl) rfl (fun r11 L11 f11 hR11 => ?_)
      obtain ⟨rfl, hL9, hf9⟩ := hR11
      rw [hL9, hf9]
      clear hL9 hf9
      refine C.icmp_geI (tgt := 32) dX1_become_14 (by decide) (by omega) (by omega) (fun hc14 => absurd hc14 (by omega)) (fun hc14 => ?_)
      refine C.aload_n dX1_become_17 rfl ?_
      refine C.aload_n dX1_become_18 rfl ?_
      refine C.iload_n dX1_become_19 rfl ?_
      refine C.callV (M2) cw_X1_at ml_X1_36 im_X1_at sl_X1_at dX1_become_20 hlt2 hflt2 rfl rfl (by omega) (by omega) (by omega) (Nat.le_of_ble_eq_true rfl) rfl (fun r20 L20 f20 hR20 => ?_)
      obtain ⟨rfl, hL9, hf9⟩ := hR20
      rw [hL9, hf9]
      clear hL9 hf9
      refine C.callV (M3) cw_X1_add ml_X1_40 im_X1_add sl_X1_add dX1_become_23 hlt1 hflt1 rfl rfl (by omega) (by omega) (by omega) (Nat.le_of_ble_eq_true rfl) rfl (fun r23 L23 f23 hR23 => ?_)
      obtain ⟨rfl, e3, hA3, hF3, he3⟩ := hR23
      refine C.iincI dX1_become_26 rfl (by decide) rfl ?_
      refine C.goto (tgt := 9) dX1_become_29 (by decide) ?_
      skip
      refine C.wide (ce2 := i + 1) (sl2 := 40 * (i + 1)) (by omega) (by omega) ?_
      exact ih (i + 1) L23 f23 e3 (ps1 ++ [(p.1, p.2)]) (by omega) (by rw [List.map_append, hps, List.take_add_one, List.getElem?_map, hpi]; rfl) hA3 (hB.keepQ hls1 hF3 (by omega) hn2 (by omega) he2) (hF.tr hF3 he1) (by
        rcases he3 with rfl | ⟨h1, h2⟩
        · exact he1
        · exact Or.inr ⟨fun h => h1 (hF.1 _ h), h2⟩) (fun h => by
        rcases he3 with rfl | ⟨h1, -⟩
        · exact he2 h
        · exact absurd (h ▸ hls2.obj.2.1) h1)
  refine C.aload_n dX1_become_0 rfl ?_
  refine C.getf gf_X1_12 dX1_become_1 hlt hflt rfl ?_
  refine C.callV (M) cw_Jx4a65c_clear_da8c8 ml_X1_28 im_Jx4a65c_clear_da8c8 sl_Jx4a65c_clear_da8c8 dX1_become_4 hkL hfk rfl rfl (by omega) (Nat.zero_le _) (Nat.zero_le _) (Nat.le_of_ble_eq_true rfl) rfl (fun r4 L4 f4 hR4 => ?_)
  obtain ⟨rfl, rfl, h3, h4⟩ := hR4
  refine C.ic dX1_become_7 ?_
  refine C.istore_n dX1_become_8 (by decide) rfl ?_
  skip
  exact loop ps2.length 0 _ _ e [] (by omega) rfl h3 (h2.keepQ hls h4 (by omega) hn2 (by omega) hee) h4 (Or.inl rfl) hee
end LETT
