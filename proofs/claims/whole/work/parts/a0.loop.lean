/-! the law's loop -/
theorem Sj.rf {sf : SF} : Sj sf sf := ⟨rfl, rfl, rfl, rfl, rfl, rfl, rfl⟩
theorem RI.succ {t : Nat} {L : List Nat} {f : Nat → AC} (h : RI t L f) : RI (t + 1) L f := by
  obtain ⟨c, a, sf, sa, xs, ys, n, hJ, hB, hQ⟩ := h
  exact ⟨c, a, sf, sa, xs, ys, n, hJ, hB, hQ.keep Sj.rf Go.rf⟩
theorem RI.o0 {t : Nat} {L : List Nat} {f : Nat → AC} (h : RI t L f) : 0 ∈ L ∧ ∃ fs, f 0 = .inr (10, fs) := by
  obtain ⟨c, a, sf, sa, xs, ys, n, ⟨e4, e13, e15, po, pn, hI, -, -⟩, -, -⟩ := h
  exact ⟨hI.o0.1, _, hI.o0.2⟩
section LOOP
variable {n : Nat} {sx : Nat → Int} {X : XT}
theorem law_exit (C0 : Lx n sx 1300 601024 7293034 X) {ce sl t : Nat} {L : List Nat} {f : Nat → AC} {v5 v6 : Option Value} (hn : n ≤ 3072) (hce : ce ≤ 601024) (hsl : sl ≤ 7293034) (ht : t ≤ 512) (he : n < 6 * t + 6) : X ce sl L f 23 (lwV ((6 * t : Nat) : Int) v5 v6) [] := by
  have C := C0.C
  refine C.iload dL_law_23 rfl ?_
  refine C.aload_n dL_law_25 rfl ?_
  refine C0.scl dL_law_26 ?_
  refine C.bi dL_law_27 (by decide) ?_
  refine C.isubI dL_law_29 ?_
  refine C.icmp_gtI (tgt := 1082) dL_law_30 (by decide) (by omega) (by omega) (fun hc30 => ?_) (fun hc30 => absurd hc30 (by omega))
  refine C.ic dL_law_1082 ?_
  refine C.retI rfl (by first | rfl | (exact (iI_bool (by first | exact Or.inl rfl | exact Or.inr rfl | assumption)).1)) dL_law_1083 (by omega) (by omega) rfl
  skip
theorem law_step (C0 : Lx n sx 1300 601024 7293034 X) {ce sl t : Nat} {L : List Nat} {f : Nat → AC} {v5 v6 : Option Value} (hn : n ≤ 3072) (hsx : ∀ j, i3 (sx j)) (hce : ce + 1173 ≤ 601024) (hsl : sl + 14047 ≤ 7293034) (ht : t ≤ 512) (hi : 6 * t + 6 ≤ n) (h : RI t L f)
    (kk : ∀ L f v5 v6, RI (t + 1) L f → X (ce + 1173) (sl + 14047) L f 23 (lwV ((6 * (t + 1) : Nat) : Int) v5 v6) []) : X ce sl L f 23 (lwV ((6 * t : Nat) : Int) v5 v6) [] := by
  have C := C0.C
  have k2 : ∀ L f v5 v6, RI (t + 1) L f → X (ce + 1173) (sl + 14047) L f 1076 (lwV ((6 * t : Nat) : Int) v5 v6) [] := by
    intro L f v5 v6 hR
    refine C.iincI dL_law_1076 rfl (by decide) rfl ?_
    refine C.goto (tgt := 23) dL_law_1079 (by decide) ?_
    skip
    have e := kk L f v5 v6 hR
    rw [show ((6 * (t + 1) : Nat) : Int) = ((6 * t : Nat) : Int) + 6 by omega] at e
    exact e
  have hi2 : 0 ≤ ((6 * t : Nat) : Int) ∧ ((6 * t : Nat) : Int) + 6 ≤ n := by omega
  refine C.iload dL_law_23 rfl ?_
  refine C.aload_n dL_law_25 rfl ?_
  refine C0.scl dL_law_26 ?_
  refine C.bi dL_law_27 (by decide) ?_
  refine C.isubI dL_law_29 ?_
  refine C.icmp_gtI (tgt := 1082) dL_law_30 (by decide) (by omega) (by omega) (fun hc30 => absurd hc30 (by omega)) (fun hc30 => ?_)
  refine C.aload_n dL_law_33 rfl ?_
  refine C.iload dL_law_34 rfl ?_
  refine C0.scr dL_law_36 (by omega) (by omega) hn ?_
  refine C.bi dL_law_37 (by decide) ?_
  refine C.iand dL_law_39 ?_
  skip
  generalize hx : (iI (sx ((6 * t : Nat) : Int).toNat) &&& iI 31 : Int32) = x
  clear hx
  obtain ⟨h0L, fs, h0f⟩ := h.o0
  by_cases hr : x.toInt < 0 ∨ 17 < x.toInt
  · refine C.tableOut (tgt := 1076) dL_law_40 hr (by decide) ?_
    exact C.wide (by omega) (by omega) (k2 _ _ _ _ h.succ)
  · rcases (show x.toInt = 0 ∨ x.toInt = 1 ∨ x.toInt = 2 ∨ x.toInt = 3 ∨ x.toInt = 4 ∨ x.toInt = 5 ∨ x.toInt = 6 ∨ x.toInt = 7 ∨ x.toInt = 8 ∨ x.toInt = 9 ∨ x.toInt = 10 ∨ x.toInt = 11 ∨ x.toInt = 12 ∨ x.toInt = 13 ∨ x.toInt = 14 ∨ x.toInt = 15 ∨ x.toInt = 16 ∨ x.toInt = 17 by omega) with hx | hx | hx | hx | hx | hx | hx | hx | hx | hx | hx | hx | hx | hx | hx | hx | hx | hx
    · refine C.tableIn (tgt := 128) dL_law_40 (by omega) (by omega) (by rw [hx]; rfl) (by decide) ?_
      exact law_feed C0 hn hi2 hce hsl (pr_feed h) h0L h0f k2
    · refine C.tableIn (tgt := 201) dL_law_40 (by omega) (by omega) (by rw [hx]; rfl) (by decide) ?_
      exact law_end C0 hn hi2 hce hsl (pr_end (hsx _) h) h0L h0f k2
    · refine C.tableIn (tgt := 226) dL_law_40 (by omega) (by omega) (by rw [hx]; rfl) (by decide) ?_
      exact law_letter C0 hn hi2 hce hsl (pr_letter ht h) k2
    · refine C.tableIn (tgt := 270) dL_law_40 (by omega) (by omega) (by rw [hx]; rfl) (by decide) ?_
      exact law_fault C0 hn hi2 hce hsl (pr_fault h) h0L h0f k2
    · refine C.tableIn (tgt := 283) dL_law_40 (by omega) (by omega) (by rw [hx]; rfl) (by decide) ?_
      exact law_part C0 hn hi2 hce hsl (pr_part ht (hsx _) h) k2
    · refine C.tableIn (tgt := 346) dL_law_40 (by omega) (by omega) (by rw [hx]; rfl) (by decide) ?_
      exact law_melt C0 hn hi2 hce hsl (pr_melt ht (hsx _) h) k2
    · refine C.tableIn (tgt := 409) dL_law_40 (by omega) (by omega) (by rw [hx]; rfl) (by decide) ?_
      exact law_turn C0 hn hi2 hce hsl (pr_turn ht (hsx _) h) k2
    · refine C.tableIn (tgt := 472) dL_law_40 (by omega) (by omega) (by rw [hx]; rfl) (by decide) ?_
      exact law_ease C0 hn hi2 hce hsl (pr_ease ht (hsx _) h) k2
    · refine C.tableIn (tgt := 535) dL_law_40 (by omega) (by omega) (by rw [hx]; rfl) (by decide) ?_
      exact law_plainest C0 hn hi2 hce hsl (pr_plainest ht h) k2
    · refine C.tableIn (tgt := 579) dL_law_40 (by omega) (by omega) (by rw [hx]; rfl) (by decide) ?_
      exact law_again C0 hn hi2 hce hsl (pr_again ht h) k2
    · refine C.tableIn (tgt := 603) dL_law_40 (by omega) (by omega) (by rw [hx]; rfl) (by decide) ?_
      exact law_cost C0 hn hi2 hce hsl hsx (fun bo => pr_cost ht h) k2
    · refine C.tableIn (tgt := 675) dL_law_40 (by omega) (by omega) (by rw [hx]; rfl) (by decide) ?_
      exact law_look C0 hn hi2 hce hsl (pr_look ht (hsx _) (hsx _) h) k2
    · refine C.tableIn (tgt := 743) dL_law_40 (by omega) (by omega) (by rw [hx]; rfl) (by decide) ?_
      exact law_same C0 hn hi2 hce hsl (pr_same ht h) k2
    · refine C.tableIn (tgt := 794) dL_law_40 (by omega) (by omega) (by rw [hx]; rfl) (by decide) ?_
      exact law_write C0 hn hi2 hce hsl (pr_write ht h) k2
    · refine C.tableIn (tgt := 838) dL_law_40 (by omega) (by omega) (by rw [hx]; rfl) (by decide) ?_
      exact law_taped C0 hn hi2 hce hsl (pr_taped (hsx _) h) h0L h0f k2
    · refine C.tableIn (tgt := 863) dL_law_40 (by omega) (by omega) (by rw [hx]; rfl) (by decide) ?_
      exact law_ask C0 hn hi2 hce hsl hsx (fun bo => pr_ask ht (hsx _) (hsx _) (hsx _) h) k2
    · refine C.tableIn (tgt := 971) dL_law_40 (by omega) (by omega) (by rw [hx]; rfl) (by decide) ?_
      exact law_days C0 hn hi2 hce hsl (pr_days ht (hsx _) (hsx _) (hsx _) h) k2
    · refine C.tableIn (tgt := 1051) dL_law_40 (by omega) (by omega) (by rw [hx]; rfl) (by decide) ?_
      exact law_count C0 hn hi2 hce hsl (pr_count (hsx _) h) h0L h0f k2
theorem law_loop (C0 : Lx n sx 1300 601024 7293034 X) (hn : n ≤ 3072) (hsx : ∀ j, i3 (sx j)) : ∀ (r t : Nat) (L : List Nat) (f : Nat → AC) (v5 v6 : Option Value), r + t = 512 → RI t L f → X (33 + 1173 * t) (100679 + 14047 * t) L f 23 (lwV ((6 * t : Nat) : Int) v5 v6) [] := by
  intro r
  induction r with
  | zero =>
    intro t L f v5 v6 ht h
    exact law_exit C0 hn (by omega) (by omega) (by omega) (by omega)
  | succ r ih =>
    intro t L f v5 v6 ht h
    by_cases hi : 6 * t + 6 ≤ n
    · refine law_step C0 hn hsx (by omega) (by omega) (by omega) hi h (fun L f v5 v6 hR => ?_)
      have e := ih (t + 1) L f v5 v6 (by omega) hR
      rw [show 33 + 1173 * (t + 1) = 33 + 1173 * t + 1173 by omega, show 100679 + 14047 * (t + 1) = 100679 + 14047 * t + 14047 by omega] at e
      exact e
    · exact law_exit C0 hn (by omega) (by omega) (by omega) (by omega)
end LOOP
