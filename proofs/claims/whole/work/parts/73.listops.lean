section MODC
variable {cc : ByteArray} {nL : Nat} {rt : Option FieldType} {ini : Bool} {d mc ms : Nat} {Po : AT} {X : XT} {ce sl pc : Nat} {L : List Nat} {f : Nat → AC} {lv : List (Option Value)} {st : List Value}
theorem Cx.getMod (C : Cx RJx4a65c cc nL rt ini d mc ms Po X) {k : Nat} {fs : List Value} {v : Value} (dg : decode cc pc = .ok (.getfield 63, 3)) (hk : k ∈ L) (hf : f k = .inr (2, fs)) (hv : fs[0]? = some v)
    (kk : X ce sl L f (pc + 3) lv (v :: st)) : X ce sl L f pc lv (.ref k :: st) := by
  obtain ⟨p, l, e, s, m, args, below, meth, c, dC, dI, cy, ad, A, Q, w0, ⟨hx, hb, hml, hown, hts⟩, hin0, hK, hA, hE, had, hret, rfl⟩ := C
  intro H locs ls hP hD hS hl
  obtain ⟨Cn, T, N, ty0, hc, hin, hty, hnm, -⟩ := pf_Jx4a65c_48
  cases hc
  have hnk := hD.2.obj hk hf
  obtain ⟨i, hi, hwk⟩ := wo_get (cy := cy) (ad := ad) (f := f) hk hnk
  rw [hf] at hwk
  exact va_get (ref := "java/util/ArrayList") hx hb hts (fun w h => List.mem_cons_of_mem _ (hin w h)) hown hK hP i hwk rfl 0 (by decide) (hts _ (List.mem_cons_of_mem _ (om_wsL_law0_r8 _ (List.mem_of_getElem? (i := 0) rfl)))) (fun x h => u_same (hts _ (List.mem_cons_of_mem _ (om_wsL_law0_r8 _ (List.mem_of_getElem? (i := 1) rfl)))) x h) (v := rv ad v) (by rw [List.getElem?_map, hv]; rfl) dg (kk H locs ls hP hD hS hl)
theorem Cx.putMod (C : Cx RJx4a65c cc nL rt ini d mc ms Po X) {k : Nat} {fs : List Value} {z : Int} (dg : decode cc pc = .ok (.putfield 63, 3)) (hk : k ∈ L) (hf : f k = .inr (2, fs)) (hl0 : 0 < fs.length)
    (kk : X ce sl L (va_up f k (.inr (2, fs.set 0 (.int (iI z))))) (pc + 3) lv st) : X ce sl L f pc lv (.int (iI z) :: .ref k :: st) := by
  obtain ⟨p, l, e, s, m, args, below, meth, c, dC, dI, cy, ad, A, Q, w0, ⟨hx, hb, hml, hown, hts⟩, hin0, hK, hA, hE, had, hret, rfl⟩ := C
  intro H locs ls hP hD hS hl
  obtain ⟨Cn, T, N, ty0, hc, hin, hty, hnm, -⟩ := pf_Jx4a65c_48
  cases hc
  have hnk := hD.2.obj hk hf
  obtain ⟨i, hi, hwk⟩ := wo_get (cy := cy) (ad := ad) (f := f) hk hnk
  rw [hf] at hwk
  have e : (wo cy ad L f).set i (ad k, .inr (2, (fs.map (rv ad)).set 0 (rv ad (.int (iI z))))) = wo cy ad L (va_up f k (.inr (2, fs.set 0 (.int (iI z))))) := by
    rw [← wo_set hD.1 hi]
    show _ = (wo cy ad L f).set i (ad k, .inr (2, (fs.set 0 (.int (iI z))).map (rv ad)))
    rw [List.map_set]
  exact va_put (ref := "java/util/ArrayList") hx hb hts (fun w h => List.mem_cons_of_mem _ (hin w h)) ty0 hty hnm hown hK hP hD.1 hS i hwk rfl 0 (by decide) (hts _ (List.mem_cons_of_mem _ (om_wsL_law0_r8 _ (List.mem_of_getElem? (i := 0) rfl)))) (fun x h => u_same (hts _ (List.mem_cons_of_mem _ (om_wsL_law0_r8 _ (List.mem_of_getElem? (i := 1) rfl)))) x h) rfl (ty := .int) rfl rfl rfl (by rw [List.length_map]; exact hl0) dg (fun H1 locs1 hP1 hD1 hS1 => kk H1 locs1 ls (by rw [← e]; exact hP1) ⟨by rw [← e]; exact hD1, hD.2.up hnk⟩ hS1 hl)
end MODC
section LISTOPS2
variable {f : Nat → AC} {k e cap d : Nat} {L : List Nat} {xs : List Nat}
theorem LsAt.mod (h : LsAt L f k e cap xs) (m : Int) : LsAt L (va_up f k (aL m e xs.length)) k e cap xs := by
  have hke := h.ke
  obtain ⟨⟨m0, gr, hf, hfe, hx, hel⟩, hke2, hc, hc40, h17⟩ := h
  refine ⟨⟨m, gr, va_up_self _ _ _, (va_up_ne _ _ (Ne.symm hke)).trans hfe, hx, fun i y hi => ?_⟩, hke2, hc, hc40, h17⟩
  obtain ⟨y1, fs2, y2⟩ := hel i y hi
  have n1 : y ≠ k := fun h => aL_ne6 (by rw [← hf, ← h]; exact y2)
  exact ⟨y1, fs2, (va_up_ne _ _ n1).trans y2⟩
theorem l_size (h : LsAt L f k e cap xs) : AM yJx4a65c_size_8abf5 cJx4a65c_size_8abf5 1 (some .int) d 0 0 [.ref k] L f (SP (some (.int (iI xs.length))) L f) := by
  obtain ⟨⟨m, gr, hf, -⟩, ⟨hk, -⟩, -⟩ := h
  exact j_size hk hf
theorem l_get {i y : Nat} (hd : 2 ≤ d) (h : LsAt L f k e cap xs) (hy : xs[i]? = some y) : AM yJx4a65c_get_915e3 cJx4a65c_get_915e3 2 (some (.object "java/lang/Object")) d 0 0 [.ref k, .int (iI i)] L f (SP (some (.ref y)) L f) := by
  obtain ⟨⟨m, gr, hf, hfe, hx, hel⟩, ⟨hk, he⟩, hc, hc40, h17⟩ := h
  exact j_get hd hk he hf hfe (List.getElem?_eq_some_iff.mp hy).1 hc (by omega) (hx i y hy)
theorem l_set {i v : Nat} {fs : List Value} (hd : 2 ≤ d) (h : LsAt L f k e cap xs) (hi : i < xs.length) (hv : v ∈ L) (hfv : f v = .inr (6, fs)) : AM yJx4a65c_set_bcc79 cJx4a65c_set_bcc79 4 (some (.object "java/lang/Object")) d 0 0 [.ref k, .int (iI i), .ref v] L f (fun r L' f' => (∃ y, r = some (.ref y)) ∧ L' = L ∧ LsAt L f' k e cap (xs.set i v) ∧ FqL k e L f L f' ∧ f' k = f k) := by
  have hke := h.ke
  obtain ⟨⟨m, gr, hf, hfe, hx, hel⟩, ⟨hk, he⟩, hc, hc40, h17⟩ := h
  refine (j_set (d := d) hd hk he hf hfe hi hc (by omega) (hx i _ (List.getElem?_eq_getElem hi)) hv hfv).imp (fun r L' f' hq => ?_)
  obtain ⟨rfl, rfl, rfl⟩ := hq
  refine ⟨⟨_, rfl⟩, rfl, ⟨⟨m, va_up gr i (some v), ?_, va_up_self _ _ _, fun j y hj => ?_, fun j y hj => ?_⟩, ⟨hk, he⟩, by rw [List.length_set]; exact hc, hc40, h17⟩, ⟨fun q hq => hq, fun q hq h1 h2 => ?_⟩, va_up_ne _ _ hke⟩
  · rw [va_up_ne _ _ hke, List.length_set]
    exact hf
  · by_cases hij : j = i
    · subst hij
      rw [List.getElem?_set_self hi] at hj
      rw [va_up_self]
      exact hj
    · rw [List.getElem?_set_ne (Ne.symm hij)] at hj
      rw [va_up_ne _ _ hij]
      exact hx j y hj
  · have hyL : y ∈ L' ∧ ∃ fs, f y = .inr (6, fs) := by
      by_cases hij : j = i
      · subst hij
        rw [va_up_self] at hj
        obtain rfl := Option.some.inj hj
        exact ⟨hv, fs, hfv⟩
      · rw [va_up_ne _ _ hij] at hj
        exact hel j y hj
    obtain ⟨y1, fs2, y2⟩ := hyL
    have n2 : y ≠ e := fun h => by rw [h, hfe] at y2; cases y2
    exact ⟨y1, fs2, (va_up_ne _ _ n2).trans y2⟩
  · by_cases hqe : q = e
    · have h3 := h17.mpr (hqe ▸ h2 hqe)
      omega
    · exact va_up_ne _ _ hqe
theorem l_add {v : Nat} {fs : List Value} (hd : 6 ≤ d) (h : LsAt L f k e cap xs) (hl : xs.length < 24) (hv : v ∈ L) (hfv : f v = .inr (6, fs)) : AM yJx4a65c_add_9ea2d cJx4a65c_add_9ea2d 2 (some .boolean) d 1 40 [.ref k, .ref v] L f (AdPo L f k e (xs ++ [v]) (some (.int (iI 1)))) := by
  have hke := h.ke
  have h0 := h
  obtain ⟨⟨m, gr, hf, hfe, hx, hel⟩, ⟨hk, he⟩, hc, hc40, h17⟩ := h
  have hvk : v ≠ k := fun h => aL_ne6 (by rw [← hf, ← h]; exact hfv)
  refine AM.of (by decide +kernel) (by simp [Value.category]) (Nat.le_of_ble_eq_true rfl) false (fun h => by cases h) (fun X C => ?_)
  refine C.aload_n dJx4a65c_add_9ea2d_0 rfl ?_
  refine C.dup dJx4a65c_add_9ea2d_1 rfl ?_
  refine C.getMod dJx4a65c_add_9ea2d_2 hk hf rfl ?_
  refine C.ic dJx4a65c_add_9ea2d_5 ?_
  refine C.iaddI dJx4a65c_add_9ea2d_6 ?_
  refine C.putMod dJx4a65c_add_9ea2d_7 hk hf (Nat.le_of_ble_eq_true rfl) ?_
  show X 0 0 L (va_up f k (aL (m + 1) e xs.length)) 10 _ _
  refine C.aload_n dJx4a65c_add_9ea2d_10 rfl ?_
  refine C.aload_n dJx4a65c_add_9ea2d_11 rfl ?_
  refine C.aload_n dJx4a65c_add_9ea2d_12 rfl ?_
  refine C.getf gf_Jx4a65c_9 dJx4a65c_add_9ea2d_13 hk (va_up_self _ _ _) rfl ?_
  refine C.aload_n dJx4a65c_add_9ea2d_16 rfl ?_
  refine C.getf gf_Jx4a65c_48 dJx4a65c_add_9ea2d_17 hk (va_up_self _ _ _) rfl ?_
  refine C.callV (j_add3 (d := d - 1) (fs := fs) (by omega) (h0.mod (m + 1)) hl hv ((va_up_ne _ _ hvk).trans hfv)) cw_Jx4a65c_add_72be8 ml_Jx4a65c_131 im_Jx4a65c_add_72be8 sl_Jx4a65c_add_72be8 dJx4a65c_add_9ea2d_20 hk (va_up_self _ _ _) rfl rfl (by omega) (Nat.le_refl _) (Nat.le_refl _) (Nat.le_of_ble_eq_true rfl) rfl (fun r L9 f9 h9 => ?_)
  obtain ⟨rfl, e', cap', q1, q2, q3⟩ := h9
  refine C.ic dJx4a65c_add_9ea2d_23 ?_
  refine C.retI rfl rfl dJx4a65c_add_9ea2d_24 (Nat.le_refl _) (Nat.le_refl _) ⟨rfl, e', cap', q1, ⟨q2.1, fun q hq h1 h2 => ?_⟩, q3⟩
  rw [q2.2 q hq h1 h2, va_up_ne _ _ h1]
/-- clear: nothing is left in it -/
theorem l_clear (h : LsAt L f k e cap xs) : AM yJx4a65c_clear_da8c8 cJx4a65c_clear_da8c8 4 none d 0 0 [.ref k] L f (fun r L' f' => r = none ∧ L' = L ∧ LsAt L f' k e cap [] ∧ FqL k e L f L f') := by
  have hke := h.ke
  obtain ⟨⟨m, gr, hf, hfe, hx, hel⟩, ⟨hk, he⟩, hc, hc40, h17⟩ := h
  refine AM.of (by decide +kernel) (by simp [Value.category]) (Nat.le_of_ble_eq_true rfl) false (fun h => by cases h) (fun X C => ?_)
  refine C.aload_n dJx4a65c_clear_da8c8_0 rfl ?_
  refine C.dup dJx4a65c_clear_da8c8_1 rfl ?_
  refine C.getMod dJx4a65c_clear_da8c8_2 hk hf rfl ?_
  refine C.ic dJx4a65c_clear_da8c8_5 ?_
  refine C.iaddI dJx4a65c_clear_da8c8_6 ?_
  refine C.putMod dJx4a65c_clear_da8c8_7 hk hf (Nat.le_of_ble_eq_true rfl) ?_
  show X 0 0 L (va_up f k (aL (m + 1) e xs.length)) 10 _ _
  refine C.aload_n dJx4a65c_clear_da8c8_10 rfl ?_
  refine C.getf gf_Jx4a65c_9 dJx4a65c_clear_da8c8_11 hk (va_up_self _ _ _) rfl ?_
  refine C.astore_n dJx4a65c_clear_da8c8_14 (by decide) rfl ?_
  refine C.aload_n dJx4a65c_clear_da8c8_15 rfl ?_
  refine C.getf gf_Jx4a65c_48 dJx4a65c_clear_da8c8_16 hk (va_up_self _ _ _) rfl ?_
  refine C.istore_n dJx4a65c_clear_da8c8_19 (by decide) rfl ?_
  refine C.aload_n dJx4a65c_clear_da8c8_20 rfl ?_
  refine C.ic dJx4a65c_clear_da8c8_21 ?_
  refine C.dupx1 dJx4a65c_clear_da8c8_22 rfl rfl ?_
  refine C.putf pf_Jx4a65c_48 dJx4a65c_clear_da8c8_23 hk (va_up_self _ _ _) rfl rfl (Nat.le_of_ble_eq_true rfl) ?_
  rw [up_up]
  show X 0 0 L (va_up f k (aL (m + 1) e 0)) 26 _ _
  refine C.istore_n dJx4a65c_clear_da8c8_26 (by decide) rfl ?_
  have loop : ∀ (j i : Nat) (g2 : Nat → Option Nat), i + j = xs.length → (∀ q y, g2 q = some y → gr q = some y) → (xs.length = 0 → g2 = gr) → X 0 0 L (ls f k e (m + 1) 0 cap g2) 27 [some (.ref k), some (.ref e), some (.int (iI xs.length)), some (.int (iI i))] [] := by
    intro j
    induction j with
    | zero =>
      intro i g2 hi hg hg0
      refine C.iload_n dJx4a65c_clear_da8c8_27 rfl ?_
      refine C.iload_n dJx4a65c_clear_da8c8_28 rfl ?_
      refine C.icmp_geI (tgt := 42) dJx4a65c_clear_da8c8_29 (by decide) (by omega) (by omega) (fun _ => ?_) (fun h => absurd h (by omega))
      refine C.vret rfl dJx4a65c_clear_da8c8_42 (Nat.le_refl _) (Nat.le_refl _) ⟨rfl, rfl, ⟨⟨m + 1, g2, ls_k hke, ls_e, (fun i y hi => by cases hi), fun i y hi => ?_⟩, ⟨hk, he⟩, Nat.zero_le _, hc40, h17⟩, ⟨fun q hq => hq, fun q hq h1 h2 => ?_⟩⟩
      · obtain ⟨y1, fs2, y2⟩ := hel i y (hg i y hi)
        have n1 : y ≠ k := fun h => aL_ne6 (by rw [← hf, ← h]; exact y2)
        have n2 : y ≠ e := fun h => by rw [h, hfe] at y2; cases y2
        exact ⟨y1, fs2, (ls_o n1 n2).trans y2⟩
      · by_cases hqe : q = e
        · have h3 := h17.mpr (hqe ▸ h2 hqe)
          rw [hqe, ls_e, hfe, hg0 (by omega)]
        · exact ls_o h1 hqe
    | succ j ih =>
      intro i g2 hi hg hg0
      refine C.iload_n dJx4a65c_clear_da8c8_27 rfl ?_
      refine C.iload_n dJx4a65c_clear_da8c8_28 rfl ?_
      refine C.icmp_geI (tgt := 42) dJx4a65c_clear_da8c8_29 (by decide) (by omega) (by omega) (fun h => absurd h (by omega)) (fun _ => ?_)
      refine C.aload_n dJx4a65c_clear_da8c8_32 rfl ?_
      refine C.iload_n dJx4a65c_clear_da8c8_33 rfl ?_
      refine C.null dJx4a65c_clear_da8c8_34 ?_
      refine C.aastN (i := i) dJx4a65c_clear_da8c8_35 he ls_e rfl (by omega) (by omega) ?_
      rw [ls_pe]
      refine C.iincI dJx4a65c_clear_da8c8_36 rfl (by decide) rfl ?_
      refine C.goto (tgt := 27) dJx4a65c_clear_da8c8_39 (by decide) ?_
      refine ih (i + 1) _ (by omega) (fun q y hq => ?_) (fun h => absurd h (by omega))
      by_cases hqi : q = i
      · subst hqi
        rw [va_up_self] at hq
        cases hq
      · rw [va_up_ne _ _ hqi] at hq
        exact hg q y hq
  have := loop xs.length 0 gr (by omega) (fun _ _ h => h) (fun _ => rfl)
  unfold ls at this
  rw [up_id (va_up f k (aL (m + 1) e 0)) e _ ((va_up_ne _ _ (Ne.symm hke)).trans hfe)] at this
  exact this
end LISTOPS2
