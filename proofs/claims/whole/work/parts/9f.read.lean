def rstL (tb : Nat → Int) (e m : Nat) (xs : List Sen) (p1 : Nat) : (List Sen × Nat) ⊕ Nat := if bl tb e p1 = e then .inl (xs, e) else if inR tb e 59 59 (bl tb e p1) = true ∧ xs.length ≠ 8 then lettF tb e m xs (bl tb e p1 + 1) else .inr (bl tb e p1)
theorem lettF_step {tb : Nat → Int} {e m : Nat} {xs : List Sen} {p : Nat} : lettF tb e (m + 1) xs p = sbind (sentP tb e p) (fun x p1 => rstL tb e m (xs ++ [x]) p1) := by
  rw [lettF]
  unfold rstL
  simp only [List.length_append, List.length_cons, List.length_nil]
/-- where the class stands between two sentences -/
def SB (e : Nat) (ts : List (Int × Int × Int)) (c : SF) (a : SA) (L : List Nat) (f : Nat → AC) (e1 : Nat) (L1 : List Nat) (f1 : Nat → AC) (c1 : SF) (a1 : SA) (i1 e' : Nat) (ps1 : List (Nat × Sen)) : Prop := f1 = kv c1 a1 f1 ∧ (∀ k, k < 36 → k ∈ L1) ∧ T18 L1 f1 ∧ TsAt c1 a1 ts e i1 ∧ LtAt L1 f1 4 e' ps1 ∧ GR c c1 a a1 ∧ FH e1 L f L1 f1 ∧ (e' = e1 ∨ (e' ∉ L ∧ 2000 ≤ e'))
def RdPo (e : Nat) (ts : List (Int × Int × Int)) (c : SF) (a : SA) (L : List Nat) (f : Nat → AC) (e1 : Nat) (res : (List Sen × Nat) ⊕ Nat) : AT := fun r L' f' => ∃ (c' : SF) (a' : SA) (i' e' : Nat) (ps' : List (Nat × Sen)), SB e ts c a L f e1 L' f' c' a' i' e' ps' ∧ (match res with
  | .inl q => r = some (.int (iI 1)) ∧ ps'.map (fun p => p.2) = q.1
  | .inr b => r = some (.int (iI 0)) ∧ tkBeg ts i' e = (b : Int))
section READ
variable {tb : Nat → Int} {e d : Nat} {c : SF} {a : SA} {L : List Nat} {f : Nat → AC}
set_option maxRecDepth 20000 in
set_option maxHeartbeats 4000000 in
theorem r_read {e1 : Nat} {ps : List (Nat × Sen)} (hd : 170 ≤ d) (hK : f = kv c a f) (hL : ∀ k, k < 36 → k ∈ L) (h18 : T18 L f) (h11 : c 11 = e) (he : e ≤ 400) (hb : TK a) (hLt : LtAt L f 4 e1 ps) : AM yX2_read cX2_read 4 (some .boolean) d 430 6500 [.ref 3, .ref 1] L f (RdPo e (tkF (a 2) e 400 0) c a L f e1 (lettF (a 2) e 8 [] 0)) := by
  generalize htb : a 2 = tb
  generalize hts : tkF tb e 400 0 = ts
  generalize hRES : lettF tb e 8 [] 0 = RES
  have h3L := hL 3 (by omega)
  have h3f : f 3 = .inr (5, ko3 c) := by rw [hK]; rfl
  refine AM.of (by decide +kernel) (by simp [Value.category]) (Nat.le_of_ble_eq_true rfl) false (fun h => by cases h) (fun X C => ?_)
  have out : ∀ (L1 : List Nat) (f1 : Nat → AC) (v3 : Option Value) (ce sl : Nat), ce ≤ 430 → sl ≤ 6500 → RdPo e ts c a L f e1 RES (some (.int (iI 0))) L1 f1 → X ce sl L1 f1 75 [some (.ref 3), some (.ref 1), v3, v3] [] := by
    intro L1 f1 v3 ce sl h1 h2 hP
    refine C.ic dX2_read_75 ?_
    refine C.retI rfl (by first | rfl | (exact (iI_bool (by first | exact Or.inl rfl | exact Or.inr rfl | assumption)).1)) dX2_read_76 h1 h2 hP
    skip
  have bad0 : ∀ (pc j ce sl b i1 e' : Nat) (L1 : List Nat) (f1 : Nat → AC) (c1 : SF) (a1 : SA) (ps1 : List (Nat × Sen)), j ≤ 8 → ce ≤ 430 → sl ≤ 6500 → RES = .inr b → SB e ts c a L f e1 L1 f1 c1 a1 i1 e' ps1 → tkBeg ts i1 e = (b : Int) → X ce sl L1 f1 22 [some (.ref 3), some (.ref 1), some (.int (iI 0)), some (.int (iI j))] [] := by
    intro pc j ce sl b i1 e' L1 f1 c1 a1 ps1 hj h1 h2 hr hS hbeg
    have hP : RdPo e ts c a L f e1 RES (some (.int (iI 0))) L1 f1 := ⟨c1, a1, i1, e', ps1, hS, by rw [hr]; exact ⟨rfl, hbeg⟩⟩
    refine C.iload_n dX2_read_22 rfl ?_
    refine C.bi dX2_read_23 (by decide) ?_
    refine C.icmp_geI (tgt := 55) dX2_read_25 (by decide) (by omega) (by omega) (fun hc25 => ?_) (fun hc25 => ?_)
    · refine C.iload_n dX2_read_55 rfl ?_
      refine C.if_eqI (tgt := 75) dX2_read_56 (by decide) (by decide) (fun hc56 => ?_) (fun hc56 => absurd hc56 (by decide))
      refine C.ic dX2_read_75 ?_
      refine C.retI rfl (by first | rfl | (exact (iI_bool (by first | exact Or.inl rfl | exact Or.inr rfl | assumption)).1)) dX2_read_76 h1 h2 hP
      skip
    · refine C.iload_n dX2_read_28 rfl ?_
      refine C.if_eqI (tgt := 55) dX2_read_29 (by decide) (by decide) (fun hc29 => ?_) (fun hc29 => absurd hc29 (by decide))
      refine C.iload_n dX2_read_55 rfl ?_
      refine C.if_eqI (tgt := 75) dX2_read_56 (by decide) (by decide) (fun hc56 => ?_) (fun hc56 => absurd hc56 (by decide))
      refine C.ic dX2_read_75 ?_
      refine C.retI rfl (by first | rfl | (exact (iI_bool (by first | exact Or.inl rfl | exact Or.inr rfl | assumption)).1)) dX2_read_76 h1 h2 hP
      skip
  -- all is read, or a thing stands where none may
  have t55 : ∀ (j ce sl i1 e' : Nat) (L1 : List Nat) (f1 : Nat → AC) (c1 : SF) (a1 : SA) (ps1 : List (Nat × Sen)), ce ≤ 430 → sl ≤ 6500 → SB e ts c a L f e1 L1 f1 c1 a1 i1 e' ps1 → (tkSee ts i1 22 = true → RdPo e ts c a L f e1 RES (some (.int (iI 1))) L1 f1) → (tkSee ts i1 22 = false → RdPo e ts c a L f e1 RES (some (.int (iI 0))) L1 f1) → X ce sl L1 f1 55 [some (.ref 3), some (.ref 1), some (.int (iI 1)), some (.int (iI j))] [] := by
    intro j ce sl i1 e' L1 f1 c1 a1 ps1 h1 h2 hS hy hn
    obtain ⟨k1, k2, k3, k4, k5, k6, k7, k8⟩ := hS
    have M := (k_sees (d := d - 1) (g := f1) (w := 22) (by unfold i3; decide) k2 k4).at k1
    have h3f1 : f1 3 = .inr (5, ko3 c1) := by rw [k1]; rfl
    have h6f1 : f1 6 = .inr (8, ko6 c1) := by rw [k1]; rfl
    cases hse : tkSee ts i1 22 with
    | true =>
      rw [hse] at M
      have hP := hy hse
      refine C.iload_n dX2_read_55 rfl ?_
      refine C.if_eqI (tgt := 75) dX2_read_56 (by decide) (by decide) (fun hc56 => absurd hc56 (by decide)) (fun hc56 => ?_)
      refine C.aload_n dX2_read_59 rfl ?_
      refine C.getf gf_X2_21 dX2_read_60 (k2 3 (by omega)) h3f1 rfl ?_
      refine C.bi dX2_read_63 (by decide) ?_
      refine C.callV (M) cw_X6_sees ml_X2_58 im_X6_sees sl_X6_sees dX2_read_65 (k2 6 (by omega)) h6f1 rfl rfl (by omega) h1 h2 (Nat.le_of_ble_eq_true rfl) rfl (fun r65 L65 f65 hR65 => ?_)
      obtain ⟨c9, a9, ⟨rfl, hc9, ha9⟩, rfl, hf9⟩ := hR65
      rw [hf9, hc9, ha9, ← k1]
      refine C.if_eqI (tgt := 75) dX2_read_68 (by decide) (by decide) (fun hc68 => absurd hc68 (by decide)) (fun hc68 => ?_)
      refine C.ic dX2_read_71 ?_
      refine C.goto (tgt := 76) dX2_read_72 (by decide) ?_
      refine C.retI rfl (by first | rfl | (exact (iI_bool (by first | exact Or.inl rfl | exact Or.inr rfl | assumption)).1)) dX2_read_76 h1 h2 hP
      skip
    | false =>
      rw [hse] at M
      have hP := hn hse
      refine C.iload_n dX2_read_55 rfl ?_
      refine C.if_eqI (tgt := 75) dX2_read_56 (by decide) (by decide) (fun hc56 => absurd hc56 (by decide)) (fun hc56 => ?_)
      refine C.aload_n dX2_read_59 rfl ?_
      refine C.getf gf_X2_21 dX2_read_60 (k2 3 (by omega)) h3f1 rfl ?_
      refine C.bi dX2_read_63 (by decide) ?_
      refine C.callV (M) cw_X6_sees ml_X2_58 im_X6_sees sl_X6_sees dX2_read_65 (k2 6 (by omega)) h6f1 rfl rfl (by omega) h1 h2 (Nat.le_of_ble_eq_true rfl) rfl (fun r65 L65 f65 hR65 => ?_)
      obtain ⟨c9, a9, ⟨rfl, hc9, ha9⟩, rfl, hf9⟩ := hR65
      rw [hf9, hc9, ha9, ← k1]
      refine C.if_eqI (tgt := 75) dX2_read_68 (by decide) (by decide) (fun hc68 => ?_) (fun hc68 => absurd hc68 (by decide))
      refine C.ic dX2_read_75 ?_
      refine C.retI rfl (by first | rfl | (exact (iI_bool (by first | exact Or.inl rfl | exact Or.inr rfl | assumption)).1)) dX2_read_76 h1 h2 hP
      skip
  -- one act too many was read
  have bad1 : ∀ (j ce sl b i1 e' : Nat) (L1 : List Nat) (f1 : Nat → AC) (c1 : SF) (a1 : SA) (ps1 : List (Nat × Sen)), j ≤ 8 → ce ≤ 430 → sl ≤ 6500 → RES = .inr b → SB e ts c a L f e1 L1 f1 c1 a1 i1 e' ps1 → tkBeg ts i1 e = (b : Int) → tkIs ts i1 7 = true → X ce sl L1 f1 22 [some (.ref 3), some (.ref 1), some (.int (iI 1)), some (.int (iI j))] [] := by
    intro j ce sl b i1 e' L1 f1 c1 a1 ps1 hj h1 h2 hr hS hbeg h7
    have hP : RdPo e ts c a L f e1 RES (some (.int (iI 0))) L1 f1 := ⟨c1, a1, i1, e', ps1, hS, by rw [hr]; exact ⟨rfl, hbeg⟩⟩
    have hse : tkSee ts i1 22 = false := by
      unfold tkIs at h7
      unfold tkSee
      cases hti : ts[i1]? with
      | none => rw [hti] at h7; cases h7
      | some t =>
        rw [hti] at h7
        have h8 : t.1 = 7 := of_decide_eq_true h7
        exact decide_eq_false (fun h => by rw [h8] at h; cases h)
    have hgo := t55 j ce sl i1 e' L1 f1 c1 a1 ps1 h1 h2 hS (fun h => by rw [hse] at h; cases h) (fun _ => hP)
    obtain ⟨k1, k2, k3, k4, k5, k6, k7, k8⟩ := hS
    have M := (b_takeF (d := d - 1) (g := f1) (w := 21) (by unfold i3; decide) k2 k4 (tk_ex h7 (by decide))).at k1
    have h3f1 : f1 3 = .inr (5, ko3 c1) := by rw [k1]; rfl
    have h6f1 : f1 6 = .inr (8, ko6 c1) := by rw [k1]; rfl
    refine C.iload_n dX2_read_22 rfl ?_
    refine C.bi dX2_read_23 (by decide) ?_
    refine C.icmp_geI (tgt := 55) dX2_read_25 (by decide) (by omega) (by omega) (fun hc25 => ?_) (fun hc25 => ?_)
    · exact hgo
    · refine C.iload_n dX2_read_28 rfl ?_
      refine C.if_eqI (tgt := 55) dX2_read_29 (by decide) (by decide) (fun hc29 => absurd hc29 (by decide)) (fun hc29 => ?_)
      refine C.aload_n dX2_read_32 rfl ?_
      refine C.getf gf_X2_21 dX2_read_33 (k2 3 (by omega)) h3f1 rfl ?_
      refine C.bi dX2_read_36 (by decide) ?_
      refine C.callV (M) cw_X6_take ml_X2_54 im_X6_take sl_X6_take dX2_read_38 (k2 6 (by omega)) h6f1 rfl rfl (by omega) h1 h2 (Nat.le_of_ble_eq_true rfl) rfl (fun r38 L38 f38 hR38 => ?_)
      obtain ⟨c9, a9, ⟨rfl, hc9, ha9⟩, rfl, hf9⟩ := hR38
      rw [hf9, hc9, ha9, ← k1]
      refine C.if_eqI (tgt := 55) dX2_read_41 (by decide) (by decide) (fun hc41 => ?_) (fun hc41 => absurd hc41 (by decide))
      exact hgo
  have loop : ∀ (m : Nat) (xs : List Sen) (j ce sl i1 p1 e' : Nat) (L1 : List Nat) (f1 : Nat → AC) (c1 : SF) (a1 : SA) (ps1 : List (Nat × Sen)), j + m = 8 → xs.length = j → 1 ≤ j → ps1.map (fun p => p.2) = xs → RES = rstL tb e m xs p1 → SB e ts c a L f e1 L1 f1 c1 a1 i1 e' ps1 → Tk tb e ts i1 p1 → ce ≤ p1 + 3 * j → sl ≤ 15 * p1 + 50 * j → X ce sl L1 f1 22 [some (.ref 3), some (.ref 1), some (.int (iI 1)), some (.int (iI j))] [] := by
    intro m
    induction m with
    | zero =>
      intro xs j ce sl i1 p1 e' L1 f1 c1 a1 ps1 hjm hxl hj1 hps hs hS hk1 hce hsl
      have hp1 := hk1.2
      have hse := tk_end hk1
      have hgo := t55 j ce sl i1 e' L1 f1 c1 a1 ps1 (by omega) (by omega) hS (fun h => ⟨c1, a1, i1, e', ps1, hS, by
        rw [hse, decide_eq_true_eq] at h
        rw [hs]
        unfold rstL
        rw [if_pos h]
        exact ⟨rfl, hps⟩⟩) (fun h => ⟨c1, a1, i1, e', ps1, hS, by
        rw [hse, decide_eq_false_iff_not] at h
        rw [hs]
        unfold rstL
        rw [if_neg h, if_neg (fun q => q.2 (by omega))]
        exact ⟨rfl, tk_beg hk1⟩⟩)
      refine C.iload_n dX2_read_22 rfl ?_
      refine C.bi dX2_read_23 (by decide) ?_
      refine C.icmp_geI (tgt := 55) dX2_read_25 (by decide) (by omega) (by omega) (fun hc25 => ?_) (fun hc25 => absurd hc25 (by omega))
      exact hgo
    | succ m ih =>
      intro xs j ce sl i1 p1 e' L1 f1 c1 a1 ps1 hjm hxl hj1 hps hs hS hk1 hce hsl
      have hp1 := hk1.2
      have hbe : bl tb e p1 ≤ e := bl_le hp1
      have hbg := bl_ge tb e p1
      have hS0 := hS
      obtain ⟨k1, k2, k3, k4, k5, k6, k7, k8⟩ := hS
      have h3f1 : f1 3 = .inr (5, ko3 c1) := by rw [k1]; rfl
      have h6f1 : f1 6 = .inr (8, ko6 c1) := by rw [k1]; rfl
      obtain ⟨t1, t2⟩ := tk_sg (c := 59) (w := 21) (Or.inr (Or.inr (Or.inr ⟨rfl, rfl⟩))) hk1
      have hse := tk_end hk1
      cases hsg : sgP tb e p1 59 with
      | false =>
        have hgo := t55 j ce sl i1 e' L1 f1 c1 a1 ps1 (by omega) (by omega) hS0 (fun h => ⟨c1, a1, i1, e', ps1, hS0, by
          rw [hse, decide_eq_true_eq] at h
          rw [hs]
          unfold rstL
          rw [if_pos h]
          exact ⟨rfl, hps⟩⟩) (fun h => ⟨c1, a1, i1, e', ps1, hS0, by
          rw [hse, decide_eq_false_iff_not] at h
          rw [hs]
          unfold rstL
          rw [if_neg h, if_neg (fun q => by have := q.1; unfold sgP at hsg; rw [hsg] at this; cases this)]
          exact ⟨rfl, tk_beg hk1⟩⟩)
        have M := (b_takeF (d := d - 1) (g := f1) (w := 21) (by unfold i3; decide) k2 k4 (t1.trans hsg)).at k1
        refine C.iload_n dX2_read_22 rfl ?_
        refine C.bi dX2_read_23 (by decide) ?_
        refine C.icmp_geI (tgt := 55) dX2_read_25 (by decide) (by omega) (by omega) (fun hc25 => absurd hc25 (by omega)) (fun hc25 => ?_)
        refine C.iload_n dX2_read_28 rfl ?_
        refine C.if_eqI (tgt := 55) dX2_read_29 (by decide) (by decide) (fun hc29 => absurd hc29 (by decide)) (fun hc29 => ?_)
        refine C.aload_n dX2_read_32 rfl ?_
        refine C.getf gf_X2_21 dX2_read_33 (k2 3 (by omega)) h3f1 rfl ?_
        refine C.bi dX2_read_36 (by decide) ?_
        refine C.callV (M) cw_X6_take ml_X2_54 im_X6_take sl_X6_take dX2_read_38 (k2 6 (by omega)) h6f1 rfl rfl (by omega) (by omega) (by omega) (Nat.le_of_ble_eq_true rfl) rfl (fun r38 L38 f38 hR38 => ?_)
        obtain ⟨c9, a9, ⟨rfl, hc9, ha9⟩, rfl, hf9⟩ := hR38
        rw [hf9, hc9, ha9, ← k1]
        refine C.if_eqI (tgt := 55) dX2_read_41 (by decide) (by decide) (fun hc41 => ?_) (fun hc41 => absurd hc41 (by decide))
        exact hgo
      | true =>
        have hlt := sgP_lt hsg
        have M := (b_takeT (d := d - 1) (g := f1) (w := 21) (by unfold i3; decide) k2 k4 (t1.trans hsg)).at k1
        have hs2 : RES = sbind (sentP tb e (bl tb e p1 + 1)) (fun x p2 => rstL tb e m (xs ++ [x]) p2) := by
          rw [hs]
          unfold rstL
          rw [if_neg (by omega), if_pos ⟨hsg, by omega⟩]
          exact lettF_step
        refine C.iload_n dX2_read_22 rfl ?_
        refine C.bi dX2_read_23 (by decide) ?_
        refine C.icmp_geI (tgt := 55) dX2_read_25 (by decide) (by omega) (by omega) (fun hc25 => absurd hc25 (by omega)) (fun hc25 => ?_)
        refine C.iload_n dX2_read_28 rfl ?_
        refine C.if_eqI (tgt := 55) dX2_read_29 (by decide) (by decide) (fun hc29 => absurd hc29 (by decide)) (fun hc29 => ?_)
        refine C.aload_n dX2_read_32 rfl ?_
        refine C.getf gf_X2_21 dX2_read_33 (k2 3 (by omega)) h3f1 rfl ?_
        refine C.bi dX2_read_36 (by decide) ?_
        refine C.callV (M) cw_X6_take ml_X2_54 im_X6_take sl_X6_take dX2_read_38 (k2 6 (by omega)) h6f1 rfl rfl (by omega) (by omega) (by omega) (Nat.le_of_ble_eq_true rfl) rfl (fun r38 L38 f38 hR38 => ?_)
        obtain ⟨c9, a9, ⟨rfl, hc9, ha9⟩, rfl, hf9⟩ := hR38
        rw [hf9, hc9, ha9]
        clear hc9 ha9
        refine C.if_eqI (tgt := 55) dX2_read_41 (by decide) (by decide) (fun hc41 => absurd hc41 (by decide)) (fun hc41 => ?_)
        skip
        have hG2 : Gr c1 (va_up c1 65 ((i1 + 1 : Nat) : Int)) a1 a1 := Gr.rf.up (Or.inr (Or.inr (Or.inr rfl)))
        have hF2 : FE [3, 6, 10] L38 f1 L38 (kv (va_up c1 65 ((i1 + 1 : Nat) : Int)) a1 f1) := kv_FE k1 hG2
        have hK2 : kv (va_up c1 65 ((i1 + 1 : Nat) : Int)) a1 f1 = kv (va_up c1 65 ((i1 + 1 : Nat) : Int)) a1 (kv (va_up c1 65 ((i1 + 1 : Nat) : Int)) a1 f1) := kv_idem.symm
        have h182 : T18 L38 (kv (va_up c1 65 ((i1 + 1 : Nat) : Int)) a1 f1) := ⟨k3.1, (hF2.2 18 k3.1 (by decide)).trans k3.2⟩
        have hLt2 := k5.keepE k1 hF2 (Or.inl rfl)
        have hT2 := k4.at (tk_lt (t1.trans hsg))
        have hk2 := t2 hsg
        have hpl : ps1.length = j := by rw [← hxl, ← hps, List.length_map]
        have MS := r_sentence (d := d - 1) (by omega) hK2 k2 h182 hT2 hk2 hLt2 (by omega)
        have hup := sentP_up (tb := tb) (e := e) (p := bl tb e p1 + 1) (by omega)
        have hle := sentP_le (tb := tb) (e := e) (p := bl tb e p1 + 1) (by omega)
        have h3f2 : kv (va_up c1 65 ((i1 + 1 : Nat) : Int)) a1 f1 3 = .inr (5, ko3 c1) := rfl
        generalize kv (va_up c1 65 ((i1 + 1 : Nat) : Int)) a1 f1 = f2 at *
        refine C.aload_n dX2_read_44 rfl ?_
        refine C.callV (MS) cw_X2_readSentence ml_X2_48 im_X2_readSentence sl_X2_readSentence dX2_read_45 (k2 3 (by omega)) h3f2 rfl rfl (by omega) (by omega) (by omega) (Nat.le_of_ble_eq_true rfl) rfl (fun r45 L45 f45 hR45 => ?_)
        obtain ⟨c3, a3, i3, e3, ps3, ⟨y1, y2, y3, y4, y5, y6, y7, y8⟩, hres⟩ := hR45
        skip
        have hS3 : SB e ts c a L f e1 L45 f45 c3 a3 i3 e3 ps3 := by
          refine ⟨y1, y2, y3, y4, y5, (k6.tr hG2.R).tr y6, (k7.tr (e2 := e1) (hF2.h e3610) (Or.inl rfl)).tr y7 k8, ?_⟩
          rcases y8 with rfl | ⟨h1, h2⟩
          · exact k8
          · exact Or.inr ⟨fun h => h1 (k7.1 _ h), h2⟩
        cases hq : sentP tb e (bl tb e p1 + 1) with
        | inl q =>
          obtain ⟨x, p2⟩ := q
          rw [hq] at hres hs2 hup hle
          rw [sb_l] at hs2
          obtain ⟨rfl, hk3, hps3⟩ := hres
          change bl tb e p1 + 1 ≤ p2 at hup
          have ee : sEnd (Sum.inl (x, p2) : (Sen × Nat) ⊕ Nat) = p2 := rfl
          refine C.istore_n dX2_read_48 (by decide) rfl ?_
          refine C.iincI dX2_read_49 rfl (by decide) rfl ?_
          refine C.goto (tgt := 22) dX2_read_52 (by decide) ?_
          skip
          refine C.wide (ce2 := p2 + 3 * (j + 1)) (sl2 := 15 * p2 + 50 * (j + 1)) (by omega) (by omega) ?_
          exact ih (xs ++ [x]) (j + 1) _ _ i3 p2 e3 L45 f45 c3 a3 ps3 (by omega) (by rw [List.length_append, hxl]; rfl) (by omega) (by rw [hps3, hps]) hs2 hS3 hk3 (by omega) (by omega)
        | inr b =>
          rw [hq] at hres hs2 hup hle
          rw [sb_r] at hs2
          obtain ⟨hbeg, -, hor⟩ := hres
          have ee : sEnd (Sum.inr b : (Sen × Nat) ⊕ Nat) = b := rfl
          rcases hor with rfl | ⟨rfl, h7⟩
          · refine C.istore_n dX2_read_48 (by decide) rfl ?_
            refine C.iincI dX2_read_49 rfl (by decide) rfl ?_
            refine C.goto (tgt := 22) dX2_read_52 (by decide) ?_
            exact bad0 0 (j + 1) _ _ b i3 e3 _ _ c3 a3 ps3 (by omega) (by omega) (by omega) hs2 hS3 hbeg
          · refine C.istore_n dX2_read_48 (by decide) rfl ?_
            refine C.iincI dX2_read_49 rfl (by decide) rfl ?_
            refine C.goto (tgt := 22) dX2_read_52 (by decide) ?_
            exact bad1 (j + 1) _ _ b i3 e3 _ _ c3 a3 ps3 (by omega) (by omega) (by omega) hs2 hS3 hbeg h7
  -- the beginning
  obtain ⟨-, h4L, h4f⟩ := hLt.1
  have M1 := t_clear (d := d - 1) (by omega) hLt
  refine C.aload_n dX2_read_0 rfl ?_
  refine C.getf gf_X2_12 dX2_read_1 h3L h3f rfl ?_
  refine C.callV (M1) cw_X1_clear ml_X2_41 im_X1_clear sl_X1_clear dX2_read_4 h4L h4f rfl rfl (by omega) (by omega) (by omega) (Nat.le_of_ble_eq_true rfl) rfl (fun r4 L4 f4 hR4 => ?_)
  obtain ⟨rfl, rfl, hLt1, hF1⟩ := hR4
  skip
  obtain ⟨cap1, hls1⟩ := hLt1.2.1
  obtain ⟨-, -, ⟨m1, n1, hf1⟩, -⟩ := hls1.obj
  obtain ⟨cap0, hls0⟩ := hLt.2.1
  obtain ⟨-, -, -, nq, gq, hfe0⟩ := hls0.obj
  have hlow : ∀ j, j < 17 → j ≠ 5 → f4 j = f j := fun j hj h5 => hF1.2 j (hL j (by omega)) h5 (fun he => by
    rw [← he] at hfe0
    exact absurd hfe0 (kv_noQ hK hj))
  have h181 : f4 18 = f 18 := hF1.2 18 h18.1 (by decide) (fun he => by
    rw [← he, h18.2] at hfe0
    cases hfe0)
  have hK1 := kv_l5 hK hlow hf1
  generalize hc1 : va_up (va_up (va_up c 50 m1) 51 (e1 : Int)) 52 n1 = c1 at hK1
  have hG1 : GR c c1 a a := by rw [← hc1]; exact ((GR.rf.up (by omega)).up (by omega)).up (by omega)
  have h111 : c1 11 = e := by rw [← hc1]; exact h11
  have M2 := (k_split (d := d - 1) (g := f4) (by omega) hL h111 he hb).at hK1
  rw [htb, hts] at M2
  have h3f1 : f4 3 = .inr (5, ko3 c1) := by rw [hK1]; rfl
  have h6f1 : f4 6 = .inr (8, ko6 c1) := by rw [hK1]; rfl
  refine C.aload_n dX2_read_7 rfl ?_
  refine C.getf gf_X2_21 dX2_read_8 h3L h3f1 rfl ?_
  refine C.aload_n dX2_read_11 rfl ?_
  refine C.callV (M2) cw_X6_split ml_X2_44 im_X6_split sl_X6_split dX2_read_12 (hL 6 (by omega)) h6f1 rfl rfl (by omega) (by omega) (by omega) (Nat.le_of_ble_eq_true rfl) rfl (fun r12 L12 f12 hR12 => ?_)
  obtain ⟨c2, a2, ⟨rfl, hT2, hGt, hGa⟩, rfl, hf12⟩ := hR12
  skip
  have hF2 : FE [6, 7, 8, 9] L12 f4 L12 f12 := ⟨fun _ h => h, fun q _ hq => by
    rw [hf12, kv_Gt hGt hGa (fun h => hq (by simp [h])) (fun h => hq (by simp [h])) (fun h => hq (by simp [h])) (fun h => hq (by simp [h]))]
    exact congrFun hK1.symm q⟩
  have hE2 : ∀ q ∈ [6, 7, 8, 9], q < 17 := fun q hq => by simp at hq; omega
  have hK2 : f12 = kv c2 a2 f12 := by rw [hf12]; exact kv_idem.symm
  have h182 : T18 L12 f12 := ⟨h18.1, (hF2.2 18 h18.1 (by decide)).trans (h181.trans h18.2)⟩
  have hLt2 := hLt1.keepF hK1 hF2 (fun q hq => ⟨hE2 q hq, by simp at hq; omega, by simp at hq; omega⟩)
  have hG2 : GR c c2 a a2 := hG1.tr ⟨fun j x => hGt j (by omega) (by omega) (by omega), fun b x => hGa b (by omega) (by omega) (by omega)⟩
  have hF02 : FH e1 L12 f L12 f12 := (hF1.h (by omega)).tr (e2 := e1) (hF2.h hE2) (Or.inl rfl)
  have hk0 : Tk tb e ts 0 0 := ⟨by
    rw [List.drop_zero, ← hts]
    exact tkF_fuel _ _ _ (by omega) (by omega), by omega⟩
  have MS := r_sentence (d := d - 1) (by omega) hK2 hL h182 hT2 hk0 hLt2 (by show 0 < 24; omega)
  have hle := sentP_le (tb := tb) (e := e) (p := 0) (by omega)
  have h3f2 : f12 3 = .inr (5, ko3 c2) := by rw [hK2]; rfl
  have hs2 : RES = sbind (sentP tb e 0) (fun x p2 => rstL tb e 7 ([] ++ [x]) p2) := by rw [← hRES]; exact lettF_step
  clear hf12
  refine C.aload_n dX2_read_15 rfl ?_
  refine C.callV (MS) cw_X2_readSentence ml_X2_48 im_X2_readSentence sl_X2_readSentence dX2_read_16 h3L h3f2 rfl rfl (by omega) (by omega) (by omega) (Nat.le_of_ble_eq_true rfl) rfl (fun r16 L16 f16 hR16 => ?_)
  obtain ⟨c3, a3, i3, e3, ps3, ⟨y1, y2, y3, y4, y5, y6, y7, y8⟩, hres⟩ := hR16
  skip
  have hS3 : SB e ts c a L12 f e1 L16 f16 c3 a3 i3 e3 ps3 := ⟨y1, y2, y3, y4, y5, hG2.tr y6, hF02.tr y7 (Or.inl rfl), y8⟩
  cases hq : sentP tb e 0 with
  | inl q =>
    obtain ⟨x, p2⟩ := q
    rw [hq] at hres hs2 hle
    rw [sb_l] at hs2
    obtain ⟨rfl, hk3, hps3⟩ := hres
    have ee : sEnd (Sum.inl (x, p2) : (Sen × Nat) ⊕ Nat) = p2 := rfl
    refine C.istore_n dX2_read_19 (by decide) rfl ?_
    refine C.ic dX2_read_20 ?_
    refine C.istore_n dX2_read_21 (by decide) rfl ?_
    skip
    exact loop 7 ([] ++ [x]) 1 _ _ i3 p2 e3 L16 f16 c3 a3 ps3 (by omega) rfl (by omega) hps3 hs2 hS3 hk3 (by omega) (by omega)
  | inr b =>
    rw [hq] at hres hs2 hle
    rw [sb_r] at hs2
    obtain ⟨hbeg, -, hor⟩ := hres
    have ee : sEnd (Sum.inr b : (Sen × Nat) ⊕ Nat) = b := rfl
    rcases hor with rfl | ⟨rfl, h7⟩
    · refine C.istore_n dX2_read_19 (by decide) rfl ?_
      refine C.ic dX2_read_20 ?_
      refine C.istore_n dX2_read_21 (by decide) rfl ?_
      exact bad0 0 1 _ _ b i3 e3 _ _ c3 a3 ps3 (by omega) (by omega) (by omega) hs2 hS3 hbeg
    · refine C.istore_n dX2_read_19 (by decide) rfl ?_
      refine C.ic dX2_read_20 ?_
      refine C.istore_n dX2_read_21 (by decide) rfl ?_
      exact bad1 1 _ _ b i3 e3 _ _ c3 a3 ps3 (by omega) (by omega) (by omega) hs2 hS3 hbeg h7
theorem r_stoppedAt {ts : List (Int × Int × Int)} {i : Nat} (hd : 1 ≤ d) (hK : f = kv c a f) (hL : ∀ k, k < 36 → k ∈ L) (hT : TsAt c a ts e i) : AM yX2_stoppedAt cX2_stoppedAt 1 (some .int) d 0 0 [.ref 3] L f (SP (some (.int (iI (tkBeg ts i e)))) L f) := by
  have M := (k_begin (d := d - 1) (g := f) hL hT).at hK
  have h3f : f 3 = .inr (5, ko3 c) := by rw [hK]; rfl
  have h6f : f 6 = .inr (8, ko6 c) := by rw [hK]; rfl
  refine AM.of (by decide +kernel) (by simp [Value.category]) (Nat.le_of_ble_eq_true rfl) false (fun h => by cases h) (fun X C => ?_)
  refine C.aload_n dX2_stoppedAt_0 rfl ?_
  refine C.getf gf_X2_21 dX2_stoppedAt_1 (hL 3 (by omega)) h3f rfl ?_
  refine C.callV (M) cw_X6_begin ml_X2_61 im_X6_begin sl_X6_begin dX2_stoppedAt_4 (hL 6 (by omega)) h6f rfl rfl (by omega) (Nat.le_refl _) (Nat.le_refl _) (Nat.le_of_ble_eq_true rfl) rfl (fun r4 L4 f4 hR4 => ?_)
  obtain ⟨c9, a9, ⟨rfl, hc9, ha9⟩, rfl, hf9⟩ := hR4
  rw [hf9, hc9, ha9, ← hK]
  refine C.retI rfl (by first | rfl | (exact (iI_bool (by first | exact Or.inl rfl | exact Or.inr rfl | assumption)).1)) dX2_stoppedAt_7 (Nat.le_refl _) (Nat.le_refl _) ⟨rfl, rfl, rfl⟩
  skip
end READ
