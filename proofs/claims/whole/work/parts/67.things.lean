theorem s_isLetter {d : Nat} {L : List Nat} {f : Nat → AC} {z : Int} (hz : i3 z) : AM yX6_isLetter cX6_isLetter 1 (some .boolean) d 0 0 [.int (iI z)] L f (SP (some (.int (iI (b2i (decide (97 ≤ z) && decide (z ≤ 122)))))) L f) := by
  unfold i3 at hz
  refine AM.of (by decide +kernel) (by simp [Value.category]) (Nat.le_of_ble_eq_true rfl) false (fun h => by cases h) (fun X C => ?_)
  refine C.iload_n dX6_isLetter_0 rfl ?_
  refine C.bi dX6_isLetter_1 (by decide) ?_
  refine C.icmp_ltI (tgt := 16) dX6_isLetter_3 (by decide) (by omega) (by omega) (fun hc3 => ?_) (fun hc3 => ?_)
  · refine C.ic dX6_isLetter_16 ?_
    refine C.retI rfl (by first | rfl | (exact (iI_bool (by first | exact Or.inl rfl | exact Or.inr rfl | assumption)).1)) dX6_isLetter_17 (Nat.le_refl _) (Nat.le_refl _) ⟨?_, rfl, rfl⟩
    congr 3
    first | (rw [decide_eq_true (by omega : 97 ≤ z), decide_eq_true (by omega : z ≤ 122)]; rfl) | (rw [decide_eq_false (by omega : ¬ 97 ≤ z)]; rfl) | (rw [decide_eq_false (by omega : ¬ z ≤ 122), Bool.and_false]; rfl)
  · refine C.iload_n dX6_isLetter_6 rfl ?_
    refine C.bi dX6_isLetter_7 (by decide) ?_
    refine C.icmp_gtI (tgt := 16) dX6_isLetter_9 (by decide) (by omega) (by omega) (fun hc9 => ?_) (fun hc9 => ?_)
    · refine C.ic dX6_isLetter_16 ?_
      refine C.retI rfl (by first | rfl | (exact (iI_bool (by first | exact Or.inl rfl | exact Or.inr rfl | assumption)).1)) dX6_isLetter_17 (Nat.le_refl _) (Nat.le_refl _) ⟨?_, rfl, rfl⟩
      congr 3
      first | (rw [decide_eq_true (by omega : 97 ≤ z), decide_eq_true (by omega : z ≤ 122)]; rfl) | (rw [decide_eq_false (by omega : ¬ 97 ≤ z)]; rfl) | (rw [decide_eq_false (by omega : ¬ z ≤ 122), Bool.and_false]; rfl)
    · refine C.ic dX6_isLetter_12 ?_
      refine C.goto (tgt := 17) dX6_isLetter_13 (by decide) ?_
      refine C.retI rfl (by first | rfl | (exact (iI_bool (by first | exact Or.inl rfl | exact Or.inr rfl | assumption)).1)) dX6_isLetter_17 (Nat.le_refl _) (Nat.le_refl _) ⟨?_, rfl, rfl⟩
      congr 3
      first | (rw [decide_eq_true (by omega : 97 ≤ z), decide_eq_true (by omega : z ≤ 122)]; rfl) | (rw [decide_eq_false (by omega : ¬ 97 ≤ z)]; rfl) | (rw [decide_eq_false (by omega : ¬ z ≤ 122), Bool.and_false]; rfl)
theorem s_isDigit {d : Nat} {L : List Nat} {f : Nat → AC} {z : Int} (hz : i3 z) : AM yX6_isDigit cX6_isDigit 1 (some .boolean) d 0 0 [.int (iI z)] L f (SP (some (.int (iI (b2i (decide (48 ≤ z) && decide (z ≤ 57)))))) L f) := by
  unfold i3 at hz
  refine AM.of (by decide +kernel) (by simp [Value.category]) (Nat.le_of_ble_eq_true rfl) false (fun h => by cases h) (fun X C => ?_)
  refine C.iload_n dX6_isDigit_0 rfl ?_
  refine C.bi dX6_isDigit_1 (by decide) ?_
  refine C.icmp_ltI (tgt := 16) dX6_isDigit_3 (by decide) (by omega) (by omega) (fun hc3 => ?_) (fun hc3 => ?_)
  · refine C.ic dX6_isDigit_16 ?_
    refine C.retI rfl (by first | rfl | (exact (iI_bool (by first | exact Or.inl rfl | exact Or.inr rfl | assumption)).1)) dX6_isDigit_17 (Nat.le_refl _) (Nat.le_refl _) ⟨?_, rfl, rfl⟩
    congr 3
    first | (rw [decide_eq_true (by omega : 48 ≤ z), decide_eq_true (by omega : z ≤ 57)]; rfl) | (rw [decide_eq_false (by omega : ¬ 48 ≤ z)]; rfl) | (rw [decide_eq_false (by omega : ¬ z ≤ 57), Bool.and_false]; rfl)
  · refine C.iload_n dX6_isDigit_6 rfl ?_
    refine C.bi dX6_isDigit_7 (by decide) ?_
    refine C.icmp_gtI (tgt := 16) dX6_isDigit_9 (by decide) (by omega) (by omega) (fun hc9 => ?_) (fun hc9 => ?_)
    · refine C.ic dX6_isDigit_16 ?_
      refine C.retI rfl (by first | rfl | (exact (iI_bool (by first | exact Or.inl rfl | exact Or.inr rfl | assumption)).1)) dX6_isDigit_17 (Nat.le_refl _) (Nat.le_refl _) ⟨?_, rfl, rfl⟩
      congr 3
      first | (rw [decide_eq_true (by omega : 48 ≤ z), decide_eq_true (by omega : z ≤ 57)]; rfl) | (rw [decide_eq_false (by omega : ¬ 48 ≤ z)]; rfl) | (rw [decide_eq_false (by omega : ¬ z ≤ 57), Bool.and_false]; rfl)
    · refine C.ic dX6_isDigit_12 ?_
      refine C.goto (tgt := 17) dX6_isDigit_13 (by decide) ?_
      refine C.retI rfl (by first | rfl | (exact (iI_bool (by first | exact Or.inl rfl | exact Or.inr rfl | assumption)).1)) dX6_isDigit_17 (Nat.le_refl _) (Nat.le_refl _) ⟨?_, rfl, rfl⟩
      congr 3
      first | (rw [decide_eq_true (by omega : 48 ≤ z), decide_eq_true (by omega : z ≤ 57)]; rfl) | (rw [decide_eq_false (by omega : ¬ 48 ≤ z)]; rfl) | (rw [decide_eq_false (by omega : ¬ z ≤ 57), Bool.and_false]; rfl)
/-- the kind of a sign -/
def sgK (z : Int) : Int := if z = 40 then 18 else if z = 41 then 19 else if z = 44 then 20 else if z = 59 then 21 else 23
theorem s_sign {d : Nat} {L : List Nat} {f : Nat → AC} {z : Int} (hz : i3 z) : AM yX5_sign cX5_sign 1 (some .int) d 0 0 [.int (iI z)] L f (SP (some (.int (iI (sgK z)))) L f) := by
  unfold i3 at hz
  by_cases h1 : z = 40
  · subst h1
    refine AM.of (by decide +kernel) (by simp [Value.category]) (Nat.le_of_ble_eq_true rfl) false (fun h => by cases h) (fun X C => ?_)
    refine C.iload_n dX5_sign_0 rfl ?_
    refine C.look (tgt := 44) dX5_sign_1 (by decide) (by omega) rfl (by decide) ?_
    refine C.bi dX5_sign_44 (by decide) ?_
    refine C.retI rfl (by first | rfl | (exact (iI_bool (by first | exact Or.inl rfl | exact Or.inr rfl | assumption)).1)) dX5_sign_46 (Nat.le_refl _) (Nat.le_refl _) ⟨rfl, rfl, rfl⟩
    skip
  by_cases h2 : z = 41
  · subst h2
    refine AM.of (by decide +kernel) (by simp [Value.category]) (Nat.le_of_ble_eq_true rfl) false (fun h => by cases h) (fun X C => ?_)
    refine C.iload_n dX5_sign_0 rfl ?_
    refine C.look (tgt := 47) dX5_sign_1 (by decide) (by omega) rfl (by decide) ?_
    refine C.bi dX5_sign_47 (by decide) ?_
    refine C.retI rfl (by first | rfl | (exact (iI_bool (by first | exact Or.inl rfl | exact Or.inr rfl | assumption)).1)) dX5_sign_49 (Nat.le_refl _) (Nat.le_refl _) ⟨rfl, rfl, rfl⟩
    skip
  by_cases h3 : z = 44
  · subst h3
    refine AM.of (by decide +kernel) (by simp [Value.category]) (Nat.le_of_ble_eq_true rfl) false (fun h => by cases h) (fun X C => ?_)
    refine C.iload_n dX5_sign_0 rfl ?_
    refine C.look (tgt := 50) dX5_sign_1 (by decide) (by omega) rfl (by decide) ?_
    refine C.bi dX5_sign_50 (by decide) ?_
    refine C.retI rfl (by first | rfl | (exact (iI_bool (by first | exact Or.inl rfl | exact Or.inr rfl | assumption)).1)) dX5_sign_52 (Nat.le_refl _) (Nat.le_refl _) ⟨rfl, rfl, rfl⟩
    skip
  by_cases h4 : z = 59
  · subst h4
    refine AM.of (by decide +kernel) (by simp [Value.category]) (Nat.le_of_ble_eq_true rfl) false (fun h => by cases h) (fun X C => ?_)
    refine C.iload_n dX5_sign_0 rfl ?_
    refine C.look (tgt := 53) dX5_sign_1 (by decide) (by omega) rfl (by decide) ?_
    refine C.bi dX5_sign_53 (by decide) ?_
    refine C.retI rfl (by first | rfl | (exact (iI_bool (by first | exact Or.inl rfl | exact Or.inr rfl | assumption)).1)) dX5_sign_55 (Nat.le_refl _) (Nat.le_refl _) ⟨rfl, rfl, rfl⟩
    skip
  · have e : sgK z = 23 := by unfold sgK; rw [if_neg h1, if_neg h2, if_neg h3, if_neg h4]
    have ho : Op.lookupswitch.offset [((40 : Int), (43 : Int)), (41, 46), (44, 49), (59, 52)] 55 z = 55 := by
      rw [Op.lookupswitch.offset_cons, if_neg (fun h => h1 h.symm), Op.lookupswitch.offset_cons, if_neg (fun h => h2 h.symm), Op.lookupswitch.offset_cons, if_neg (fun h => h3 h.symm), Op.lookupswitch.offset_cons, if_neg (fun h => h4 h.symm)]
      rfl
    refine AM.of (by decide +kernel) (by simp [Value.category]) (Nat.le_of_ble_eq_true rfl) false (fun h => by cases h) (fun X C => ?_)
    refine C.iload_n dX5_sign_0 rfl ?_
    refine C.look (tgt := 56) dX5_sign_1 (by decide) (by omega) ho (by decide) ?_
    refine C.bi dX5_sign_56 (by decide) ?_
    refine C.retI rfl (by first | rfl | (exact (iI_bool (by first | exact Or.inl rfl | exact Or.inr rfl | assumption)).1)) dX5_sign_58 (Nat.le_refl _) (Nat.le_refl _) ⟨?_, rfl, rfl⟩
    rw [e]
/-- the words, by their numbers -/
def zW : List (List Int) := [[121, 111, 117], [119, 101], [116, 104, 101, 121], [109, 117, 115, 116], [110, 111, 116], [109, 97, 121], [97, 99, 116], [97, 110, 100], [111, 114], [98, 101], [100, 111, 110, 101], [98, 121], [105, 102], [117, 110, 108, 101, 115, 115], [119, 105, 116, 104, 105, 110], [99, 97, 115, 101]]
theorem tW {w : Nat} (h : w < 16) : TX w (zW.getD w []) := by
  rcases (show w = 0 ∨ w = 1 ∨ w = 2 ∨ w = 3 ∨ w = 4 ∨ w = 5 ∨ w = 6 ∨ w = 7 ∨ w = 8 ∨ w = 9 ∨ w = 10 ∨ w = 11 ∨ w = 12 ∨ w = 13 ∨ w = 14 ∨ w = 15 by omega) with rfl | rfl | rfl | rfl | rfl | rfl | rfl | rfl | rfl | rfl | rfl | rfl | rfl | rfl | rfl | rfl <;> exact ⟨⟨_, rfl, by decide⟩, by decide, by decide⟩
theorem s_text {d w : Nat} {L : List Nat} {f : Nat → AC} (h : w < 16) : AM yX5_text cX5_text 1 (some (.object "java/lang/String")) d 0 0 [.int (iI w)] L f (SP (some (.ref (1000 + w))) L f) := by
  rcases (show w = 0 ∨ w = 1 ∨ w = 2 ∨ w = 3 ∨ w = 4 ∨ w = 5 ∨ w = 6 ∨ w = 7 ∨ w = 8 ∨ w = 9 ∨ w = 10 ∨ w = 11 ∨ w = 12 ∨ w = 13 ∨ w = 14 ∨ w = 15 by omega) with rfl | rfl | rfl | rfl | rfl | rfl | rfl | rfl | rfl | rfl | rfl | rfl | rfl | rfl | rfl | rfl
  · refine AM.of (by decide +kernel) (by simp [Value.category]) (Nat.le_of_ble_eq_true rfl) false (fun h => by cases h) (fun X C => ?_)
    refine C.iload_n dX5_text_0 rfl ?_
    refine C.tableIn (tgt := 80) dX5_text_1 (by decide) (by decide) rfl (by decide) ?_
    refine C.lds dX5_text_80 (j := 0) rfl ?_
    refine C.aret rfl (Or.inl ⟨_, rfl⟩) dX5_text_82 (Nat.le_refl _) (Nat.le_refl _) ⟨rfl, rfl, rfl⟩
    skip
  · refine AM.of (by decide +kernel) (by simp [Value.category]) (Nat.le_of_ble_eq_true rfl) false (fun h => by cases h) (fun X C => ?_)
    refine C.iload_n dX5_text_0 rfl ?_
    refine C.tableIn (tgt := 83) dX5_text_1 (by decide) (by decide) rfl (by decide) ?_
    refine C.lds dX5_text_83 (j := 1) rfl ?_
    refine C.aret rfl (Or.inl ⟨_, rfl⟩) dX5_text_85 (Nat.le_refl _) (Nat.le_refl _) ⟨rfl, rfl, rfl⟩
    skip
  · refine AM.of (by decide +kernel) (by simp [Value.category]) (Nat.le_of_ble_eq_true rfl) false (fun h => by cases h) (fun X C => ?_)
    refine C.iload_n dX5_text_0 rfl ?_
    refine C.tableIn (tgt := 86) dX5_text_1 (by decide) (by decide) rfl (by decide) ?_
    refine C.lds dX5_text_86 (j := 2) rfl ?_
    refine C.aret rfl (Or.inl ⟨_, rfl⟩) dX5_text_88 (Nat.le_refl _) (Nat.le_refl _) ⟨rfl, rfl, rfl⟩
    skip
  · refine AM.of (by decide +kernel) (by simp [Value.category]) (Nat.le_of_ble_eq_true rfl) false (fun h => by cases h) (fun X C => ?_)
    refine C.iload_n dX5_text_0 rfl ?_
    refine C.tableIn (tgt := 89) dX5_text_1 (by decide) (by decide) rfl (by decide) ?_
    refine C.lds dX5_text_89 (j := 3) rfl ?_
    refine C.aret rfl (Or.inl ⟨_, rfl⟩) dX5_text_91 (Nat.le_refl _) (Nat.le_refl _) ⟨rfl, rfl, rfl⟩
    skip
  · refine AM.of (by decide +kernel) (by simp [Value.category]) (Nat.le_of_ble_eq_true rfl) false (fun h => by cases h) (fun X C => ?_)
    refine C.iload_n dX5_text_0 rfl ?_
    refine C.tableIn (tgt := 92) dX5_text_1 (by decide) (by decide) rfl (by decide) ?_
    refine C.lds dX5_text_92 (j := 4) rfl ?_
    refine C.aret rfl (Or.inl ⟨_, rfl⟩) dX5_text_94 (Nat.le_refl _) (Nat.le_refl _) ⟨rfl, rfl, rfl⟩
    skip
  · refine AM.of (by decide +kernel) (by simp [Value.category]) (Nat.le_of_ble_eq_true rfl) false (fun h => by cases h) (fun X C => ?_)
    refine C.iload_n dX5_text_0 rfl ?_
    refine C.tableIn (tgt := 95) dX5_text_1 (by decide) (by decide) rfl (by decide) ?_
    refine C.lds dX5_text_95 (j := 5) rfl ?_
    refine C.aret rfl (Or.inl ⟨_, rfl⟩) dX5_text_97 (Nat.le_refl _) (Nat.le_refl _) ⟨rfl, rfl, rfl⟩
    skip
  · refine AM.of (by decide +kernel) (by simp [Value.category]) (Nat.le_of_ble_eq_true rfl) false (fun h => by cases h) (fun X C => ?_)
    refine C.iload_n dX5_text_0 rfl ?_
    refine C.tableIn (tgt := 98) dX5_text_1 (by decide) (by decide) rfl (by decide) ?_
    refine C.lds dX5_text_98 (j := 6) rfl ?_
    refine C.aret rfl (Or.inl ⟨_, rfl⟩) dX5_text_100 (Nat.le_refl _) (Nat.le_refl _) ⟨rfl, rfl, rfl⟩
    skip
  · refine AM.of (by decide +kernel) (by simp [Value.category]) (Nat.le_of_ble_eq_true rfl) false (fun h => by cases h) (fun X C => ?_)
    refine C.iload_n dX5_text_0 rfl ?_
    refine C.tableIn (tgt := 101) dX5_text_1 (by decide) (by decide) rfl (by decide) ?_
    refine C.lds dX5_text_101 (j := 7) rfl ?_
    refine C.aret rfl (Or.inl ⟨_, rfl⟩) dX5_text_103 (Nat.le_refl _) (Nat.le_refl _) ⟨rfl, rfl, rfl⟩
    skip
  · refine AM.of (by decide +kernel) (by simp [Value.category]) (Nat.le_of_ble_eq_true rfl) false (fun h => by cases h) (fun X C => ?_)
    refine C.iload_n dX5_text_0 rfl ?_
    refine C.tableIn (tgt := 104) dX5_text_1 (by decide) (by decide) rfl (by decide) ?_
    refine C.lds dX5_text_104 (j := 8) rfl ?_
    refine C.aret rfl (Or.inl ⟨_, rfl⟩) dX5_text_106 (Nat.le_refl _) (Nat.le_refl _) ⟨rfl, rfl, rfl⟩
    skip
  · refine AM.of (by decide +kernel) (by simp [Value.category]) (Nat.le_of_ble_eq_true rfl) false (fun h => by cases h) (fun X C => ?_)
    refine C.iload_n dX5_text_0 rfl ?_
    refine C.tableIn (tgt := 107) dX5_text_1 (by decide) (by decide) rfl (by decide) ?_
    refine C.lds dX5_text_107 (j := 9) rfl ?_
    refine C.aret rfl (Or.inl ⟨_, rfl⟩) dX5_text_109 (Nat.le_refl _) (Nat.le_refl _) ⟨rfl, rfl, rfl⟩
    skip
  · refine AM.of (by decide +kernel) (by simp [Value.category]) (Nat.le_of_ble_eq_true rfl) false (fun h => by cases h) (fun X C => ?_)
    refine C.iload_n dX5_text_0 rfl ?_
    refine C.tableIn (tgt := 110) dX5_text_1 (by decide) (by decide) rfl (by decide) ?_
    refine C.lds dX5_text_110 (j := 10) rfl ?_
    refine C.aret rfl (Or.inl ⟨_, rfl⟩) dX5_text_112 (Nat.le_refl _) (Nat.le_refl _) ⟨rfl, rfl, rfl⟩
    skip
  · refine AM.of (by decide +kernel) (by simp [Value.category]) (Nat.le_of_ble_eq_true rfl) false (fun h => by cases h) (fun X C => ?_)
    refine C.iload_n dX5_text_0 rfl ?_
    refine C.tableIn (tgt := 113) dX5_text_1 (by decide) (by decide) rfl (by decide) ?_
    refine C.lds dX5_text_113 (j := 11) rfl ?_
    refine C.aret rfl (Or.inl ⟨_, rfl⟩) dX5_text_115 (Nat.le_refl _) (Nat.le_refl _) ⟨rfl, rfl, rfl⟩
    skip
  · refine AM.of (by decide +kernel) (by simp [Value.category]) (Nat.le_of_ble_eq_true rfl) false (fun h => by cases h) (fun X C => ?_)
    refine C.iload_n dX5_text_0 rfl ?_
    refine C.tableIn (tgt := 116) dX5_text_1 (by decide) (by decide) rfl (by decide) ?_
    refine C.lds dX5_text_116 (j := 12) rfl ?_
    refine C.aret rfl (Or.inl ⟨_, rfl⟩) dX5_text_118 (Nat.le_refl _) (Nat.le_refl _) ⟨rfl, rfl, rfl⟩
    skip
  · refine AM.of (by decide +kernel) (by simp [Value.category]) (Nat.le_of_ble_eq_true rfl) false (fun h => by cases h) (fun X C => ?_)
    refine C.iload_n dX5_text_0 rfl ?_
    refine C.tableIn (tgt := 119) dX5_text_1 (by decide) (by decide) rfl (by decide) ?_
    refine C.lds dX5_text_119 (j := 13) rfl ?_
    refine C.aret rfl (Or.inl ⟨_, rfl⟩) dX5_text_121 (Nat.le_refl _) (Nat.le_refl _) ⟨rfl, rfl, rfl⟩
    skip
  · refine AM.of (by decide +kernel) (by simp [Value.category]) (Nat.le_of_ble_eq_true rfl) false (fun h => by cases h) (fun X C => ?_)
    refine C.iload_n dX5_text_0 rfl ?_
    refine C.tableIn (tgt := 122) dX5_text_1 (by decide) (by decide) rfl (by decide) ?_
    refine C.lds dX5_text_122 (j := 14) rfl ?_
    refine C.aret rfl (Or.inl ⟨_, rfl⟩) dX5_text_124 (Nat.le_refl _) (Nat.le_refl _) ⟨rfl, rfl, rfl⟩
    skip
  · refine AM.of (by decide +kernel) (by simp [Value.category]) (Nat.le_of_ble_eq_true rfl) false (fun h => by cases h) (fun X C => ?_)
    refine C.iload_n dX5_text_0 rfl ?_
    refine C.tableIn (tgt := 125) dX5_text_1 (by decide) (by decide) rfl (by decide) ?_
    refine C.lds dX5_text_125 (j := 15) rfl ?_
    refine C.aret rfl (Or.inl ⟨_, rfl⟩) dX5_text_127 (Nat.le_refl _) (Nat.le_refl _) ⟨rfl, rfl, rfl⟩
    skip
/-- the things of a text stand in their rows; at the i-th -/
def TsAt (c : SF) (a : SA) (ts : List (Int × Int × Int)) (e i : Nat) : Prop := (c 63 = ts.length ∧ ts.length ≤ 400) ∧ (∀ (j : Nat) (t : Int × Int × Int), ts[j]? = some t → a 7 j = t.1 ∧ a 8 j = t.2.1 ∧ a 9 j = t.2.2) ∧ (∀ t ∈ ts, (0 ≤ t.1 ∧ t.1 ≤ 23) ∧ (0 ≤ t.2.1 ∧ t.2.1 ≤ 400) ∧ (-1 ≤ t.2.2 ∧ t.2.2 ≤ 999)) ∧ (c 64 = e ∧ e ≤ 400) ∧ c 65 = i ∧ i ≤ ts.length
def tkIs (ts : List (Int × Int × Int)) (i : Nat) (w : Int) : Bool := match ts[i]? with
  | some t => decide (t.1 = w)
  | none => false
def tkVal (ts : List (Int × Int × Int)) (i : Nat) : Int := match ts[i]? with
  | some t => t.2.2
  | none => -1
def tkBeg (ts : List (Int × Int × Int)) (i e : Nat) : Int := match ts[i]? with
  | some t => t.2.1
  | none => e
def tkSee (ts : List (Int × Int × Int)) (i : Nat) (w : Int) : Bool := match ts[i]? with
  | some t => decide (t.1 = w)
  | none => decide (w = 22)
theorem TsAt.at {c : SF} {a : SA} {ts : List (Int × Int × Int)} {e i j : Nat} (h : TsAt c a ts e i) (hj : j ≤ ts.length) : TsAt (va_up c 65 j) a ts e j := ⟨h.1, h.2.1, h.2.2.1, h.2.2.2.1, rfl, hj⟩
section THINGS
variable {d e i : Nat} {L : List Nat} {g : Nat → AC} {c : SF} {a : SA} {ts : List (Int × Int × Int)}
theorem k_value (hL : ∀ k, k < 36 → k ∈ L) (h : TsAt c a ts e i) : KA yX6_value cX6_value 1 (some .int) d [.ref 6] L g c a (fun r c' a' => r = some (.int (iI (tkVal ts i))) ∧ c' = c ∧ a' = a) := by
  obtain ⟨⟨h1, h2⟩, h3, h4, ⟨h5, h6⟩, h7, h8⟩ := h
  refine KA.of (by decide +kernel) rfl (Nat.le_of_ble_eq_true rfl) (fun X C => ?_)
  by_cases hi : i < ts.length
  · have hti : ts[i]? = some ts[i] := List.getElem?_eq_getElem hi
    generalize ts[i] = t at hti
    have hv : tkVal ts i = t.2.2 := by unfold tkVal; rw [hti]
    refine C.aload_n dX6_value_0 rfl ?_
    refine C.getf gf_X6_30 dX6_value_1 (hL _ (by decide)) rfl rfl ?_
    refine C.topI (b := (i : Int)) h7 ?_
    refine C.if_ltI (tgt := 30) dX6_value_4 (by decide) (by omega) (fun hc4 => absurd hc4 (by omega)) (fun hc4 => ?_)
    refine C.aload_n dX6_value_7 rfl ?_
    refine C.getf gf_X6_30 dX6_value_8 (hL _ (by decide)) rfl rfl ?_
    refine C.topI (b := (i : Int)) h7 ?_
    refine C.aload_n dX6_value_11 rfl ?_
    refine C.getf gf_X6_23 dX6_value_12 (hL _ (by decide)) rfl rfl ?_
    refine C.topI (b := (ts.length : Int)) h1 ?_
    refine C.icmp_geI (tgt := 30) dX6_value_15 (by decide) (by omega) (by omega) (fun hc15 => absurd hc15 (by omega)) (fun hc15 => ?_)
    refine C.aload_n dX6_value_18 rfl ?_
    refine C.getf gf_X6_20 dX6_value_19 (hL _ (by decide)) rfl rfl ?_
    refine C.aload_n dX6_value_22 rfl ?_
    refine C.getf gf_X6_30 dX6_value_23 (hL _ (by decide)) rfl rfl ?_
    refine C.topI (b := (i : Int)) h7 ?_
    refine C.kald_9 hL dX6_value_26 rfl (by omega) ?_
    refine C.topI (b := t.2.2) (h3 i t hti).2.2 ?_
    refine C.goto (tgt := 31) dX6_value_27 (by decide) ?_
    refine C.retI rfl (by first | rfl | (exact (iI_bool (by first | exact Or.inl rfl | exact Or.inr rfl | assumption)).1)) dX6_value_31 (Nat.le_refl _) (Nat.le_refl _) ⟨_, _, ?_, rfl, rfl⟩
    rw [hv]
    exact ⟨rfl, rfl, rfl⟩
  · have hti : ts[i]? = none := List.getElem?_eq_none (by omega)
    have hv : tkVal ts i = -1 := by unfold tkVal; rw [hti]
    refine C.aload_n dX6_value_0 rfl ?_
    refine C.getf gf_X6_30 dX6_value_1 (hL _ (by decide)) rfl rfl ?_
    refine C.topI (b := (i : Int)) h7 ?_
    refine C.if_ltI (tgt := 30) dX6_value_4 (by decide) (by omega) (fun hc4 => absurd hc4 (by omega)) (fun hc4 => ?_)
    refine C.aload_n dX6_value_7 rfl ?_
    refine C.getf gf_X6_30 dX6_value_8 (hL _ (by decide)) rfl rfl ?_
    refine C.topI (b := (i : Int)) h7 ?_
    refine C.aload_n dX6_value_11 rfl ?_
    refine C.getf gf_X6_23 dX6_value_12 (hL _ (by decide)) rfl rfl ?_
    refine C.topI (b := (ts.length : Int)) h1 ?_
    refine C.icmp_geI (tgt := 30) dX6_value_15 (by decide) (by omega) (by omega) (fun hc15 => ?_) (fun hc15 => absurd hc15 (by omega))
    refine C.ic dX6_value_30 ?_
    refine C.retI rfl (by first | rfl | (exact (iI_bool (by first | exact Or.inl rfl | exact Or.inr rfl | assumption)).1)) dX6_value_31 (Nat.le_refl _) (Nat.le_refl _) ⟨_, _, ?_, rfl, rfl⟩
    rw [hv]
    exact ⟨rfl, rfl, rfl⟩
theorem k_begin (hL : ∀ k, k < 36 → k ∈ L) (h : TsAt c a ts e i) : KA yX6_begin cX6_begin 1 (some .int) d [.ref 6] L g c a (fun r c' a' => r = some (.int (iI (tkBeg ts i e))) ∧ c' = c ∧ a' = a) := by
  obtain ⟨⟨h1, h2⟩, h3, h4, ⟨h5, h6⟩, h7, h8⟩ := h
  refine KA.of (by decide +kernel) rfl (Nat.le_of_ble_eq_true rfl) (fun X C => ?_)
  by_cases hi : i < ts.length
  · have hti : ts[i]? = some ts[i] := List.getElem?_eq_getElem hi
    generalize ts[i] = t at hti
    have hv : tkBeg ts i e = t.2.1 := by unfold tkBeg; rw [hti]
    refine C.aload_n dX6_begin_0 rfl ?_
    refine C.getf gf_X6_30 dX6_begin_1 (hL _ (by decide)) rfl rfl ?_
    refine C.topI (b := (i : Int)) h7 ?_
    refine C.if_ltI (tgt := 30) dX6_begin_4 (by decide) (by omega) (fun hc4 => absurd hc4 (by omega)) (fun hc4 => ?_)
    refine C.aload_n dX6_begin_7 rfl ?_
    refine C.getf gf_X6_30 dX6_begin_8 (hL _ (by decide)) rfl rfl ?_
    refine C.topI (b := (i : Int)) h7 ?_
    refine C.aload_n dX6_begin_11 rfl ?_
    refine C.getf gf_X6_23 dX6_begin_12 (hL _ (by decide)) rfl rfl ?_
    refine C.topI (b := (ts.length : Int)) h1 ?_
    refine C.icmp_geI (tgt := 30) dX6_begin_15 (by decide) (by omega) (by omega) (fun hc15 => absurd hc15 (by omega)) (fun hc15 => ?_)
    refine C.aload_n dX6_begin_18 rfl ?_
    refine C.getf gf_X6_17 dX6_begin_19 (hL _ (by decide)) rfl rfl ?_
    refine C.aload_n dX6_begin_22 rfl ?_
    refine C.getf gf_X6_30 dX6_begin_23 (hL _ (by decide)) rfl rfl ?_
    refine C.topI (b := (i : Int)) h7 ?_
    refine C.kald_8 hL dX6_begin_26 rfl (by omega) ?_
    refine C.topI (b := t.2.1) (h3 i t hti).2.1 ?_
    refine C.goto (tgt := 34) dX6_begin_27 (by decide) ?_
    refine C.retI rfl (by first | rfl | (exact (iI_bool (by first | exact Or.inl rfl | exact Or.inr rfl | assumption)).1)) dX6_begin_34 (Nat.le_refl _) (Nat.le_refl _) ⟨_, _, ?_, rfl, rfl⟩
    rw [hv]
    exact ⟨rfl, rfl, rfl⟩
  · have hti : ts[i]? = none := List.getElem?_eq_none (by omega)
    have hv : tkBeg ts i e = e := by unfold tkBeg; rw [hti]
    refine C.aload_n dX6_begin_0 rfl ?_
    refine C.getf gf_X6_30 dX6_begin_1 (hL _ (by decide)) rfl rfl ?_
    refine C.topI (b := (i : Int)) h7 ?_
    refine C.if_ltI (tgt := 30) dX6_begin_4 (by decide) (by omega) (fun hc4 => absurd hc4 (by omega)) (fun hc4 => ?_)
    refine C.aload_n dX6_begin_7 rfl ?_
    refine C.getf gf_X6_30 dX6_begin_8 (hL _ (by decide)) rfl rfl ?_
    refine C.topI (b := (i : Int)) h7 ?_
    refine C.aload_n dX6_begin_11 rfl ?_
    refine C.getf gf_X6_23 dX6_begin_12 (hL _ (by decide)) rfl rfl ?_
    refine C.topI (b := (ts.length : Int)) h1 ?_
    refine C.icmp_geI (tgt := 30) dX6_begin_15 (by decide) (by omega) (by omega) (fun hc15 => ?_) (fun hc15 => absurd hc15 (by omega))
    refine C.aload_n dX6_begin_30 rfl ?_
    refine C.getf gf_X6_27 dX6_begin_31 (hL _ (by decide)) rfl rfl ?_
    refine C.topI (b := (e : Int)) h5 ?_
    refine C.retI rfl (by first | rfl | (exact (iI_bool (by first | exact Or.inl rfl | exact Or.inr rfl | assumption)).1)) dX6_begin_34 (Nat.le_refl _) (Nat.le_refl _) ⟨_, _, ?_, rfl, rfl⟩
    rw [hv]
    exact ⟨rfl, rfl, rfl⟩
theorem k_sees {w : Int} (hw : i3 w) (hL : ∀ k, k < 36 → k ∈ L) (h : TsAt c a ts e i) : KA yX6_sees cX6_sees 2 (some .boolean) d [.ref 6, .int (iI w)] L g c a (fun r c' a' => r = some (.int (iI (b2i (tkSee ts i w)))) ∧ c' = c ∧ a' = a) := by
  unfold i3 at hw
  obtain ⟨⟨h1, h2⟩, h3, h4, ⟨h5, h6⟩, h7, h8⟩ := h
  refine KA.of (by decide +kernel) rfl (Nat.le_of_ble_eq_true rfl) (fun X C => ?_)
  by_cases hi : i < ts.length
  · have hti : ts[i]? = some ts[i] := List.getElem?_eq_getElem hi
    generalize ts[i] = t at hti
    have hr := h4 t (List.mem_of_getElem? hti)
    have hv : tkSee ts i w = decide (t.1 = w) := by unfold tkSee; rw [hti]
    refine C.aload_n dX6_sees_0 rfl ?_
    refine C.getf gf_X6_30 dX6_sees_1 (hL _ (by decide)) rfl rfl ?_
    refine C.topI (b := (i : Int)) h7 ?_
    refine C.if_ltI (tgt := 39) dX6_sees_4 (by decide) (by omega) (fun hc4 => absurd hc4 (by omega)) (fun hc4 => ?_)
    refine C.aload_n dX6_sees_7 rfl ?_
    refine C.getf gf_X6_30 dX6_sees_8 (hL _ (by decide)) rfl rfl ?_
    refine C.topI (b := (i : Int)) h7 ?_
    refine C.aload_n dX6_sees_11 rfl ?_
    refine C.getf gf_X6_23 dX6_sees_12 (hL _ (by decide)) rfl rfl ?_
    refine C.topI (b := (ts.length : Int)) h1 ?_
    refine C.icmp_geI (tgt := 39) dX6_sees_15 (by decide) (by omega) (by omega) (fun hc15 => absurd hc15 (by omega)) (fun hc15 => ?_)
    refine C.aload_n dX6_sees_18 rfl ?_
    refine C.getf gf_X6_11 dX6_sees_19 (hL _ (by decide)) rfl rfl ?_
    refine C.aload_n dX6_sees_22 rfl ?_
    refine C.getf gf_X6_30 dX6_sees_23 (hL _ (by decide)) rfl rfl ?_
    refine C.topI (b := (i : Int)) h7 ?_
    refine C.kald_7 hL dX6_sees_26 rfl (by omega) ?_
    refine C.topI (b := t.1) (h3 i t hti).1 ?_
    refine C.iload_n dX6_sees_27 rfl ?_
    refine C.icmp_neI (tgt := 35) dX6_sees_28 (by decide) (by omega) (by omega) (fun hc28 => ?_) (fun hc28 => ?_)
    · refine C.ic dX6_sees_35 ?_
      refine C.goto (tgt := 50) dX6_sees_36 (by decide) ?_
      refine C.retI rfl (by first | rfl | (exact (iI_bool (by first | exact Or.inl rfl | exact Or.inr rfl | assumption)).1)) dX6_sees_50 (Nat.le_refl _) (Nat.le_refl _) ⟨_, _, ?_, rfl, rfl⟩
      rw [hv]
      first | (rw [decide_eq_true (by omega)]; exact ⟨rfl, rfl, rfl⟩) | (rw [decide_eq_false (by omega)]; exact ⟨rfl, rfl, rfl⟩)
    · refine C.ic dX6_sees_31 ?_
      refine C.goto (tgt := 50) dX6_sees_32 (by decide) ?_
      refine C.retI rfl (by first | rfl | (exact (iI_bool (by first | exact Or.inl rfl | exact Or.inr rfl | assumption)).1)) dX6_sees_50 (Nat.le_refl _) (Nat.le_refl _) ⟨_, _, ?_, rfl, rfl⟩
      rw [hv]
      first | (rw [decide_eq_true (by omega)]; exact ⟨rfl, rfl, rfl⟩) | (rw [decide_eq_false (by omega)]; exact ⟨rfl, rfl, rfl⟩)
  · have hti : ts[i]? = none := List.getElem?_eq_none (by omega)
    have hv : tkSee ts i w = decide (w = 22) := by unfold tkSee; rw [hti]
    refine C.aload_n dX6_sees_0 rfl ?_
    refine C.getf gf_X6_30 dX6_sees_1 (hL _ (by decide)) rfl rfl ?_
    refine C.topI (b := (i : Int)) h7 ?_
    refine C.if_ltI (tgt := 39) dX6_sees_4 (by decide) (by omega) (fun hc4 => absurd hc4 (by omega)) (fun hc4 => ?_)
    refine C.aload_n dX6_sees_7 rfl ?_
    refine C.getf gf_X6_30 dX6_sees_8 (hL _ (by decide)) rfl rfl ?_
    refine C.topI (b := (i : Int)) h7 ?_
    refine C.aload_n dX6_sees_11 rfl ?_
    refine C.getf gf_X6_23 dX6_sees_12 (hL _ (by decide)) rfl rfl ?_
    refine C.topI (b := (ts.length : Int)) h1 ?_
    refine C.icmp_geI (tgt := 39) dX6_sees_15 (by decide) (by omega) (by omega) (fun hc15 => ?_) (fun hc15 => absurd hc15 (by omega))
    refine C.iload_n dX6_sees_39 rfl ?_
    refine C.bi dX6_sees_40 (by decide) ?_
    refine C.icmp_neI (tgt := 49) dX6_sees_42 (by decide) (by omega) (by omega) (fun hc42 => ?_) (fun hc42 => ?_)
    · refine C.ic dX6_sees_49 ?_
      refine C.retI rfl (by first | rfl | (exact (iI_bool (by first | exact Or.inl rfl | exact Or.inr rfl | assumption)).1)) dX6_sees_50 (Nat.le_refl _) (Nat.le_refl _) ⟨_, _, ?_, rfl, rfl⟩
      rw [hv]
      first | (rw [decide_eq_true (by omega)]; exact ⟨rfl, rfl, rfl⟩) | (rw [decide_eq_false (by omega)]; exact ⟨rfl, rfl, rfl⟩)
    · refine C.ic dX6_sees_45 ?_
      refine C.goto (tgt := 50) dX6_sees_46 (by decide) ?_
      refine C.retI rfl (by first | rfl | (exact (iI_bool (by first | exact Or.inl rfl | exact Or.inr rfl | assumption)).1)) dX6_sees_50 (Nat.le_refl _) (Nat.le_refl _) ⟨_, _, ?_, rfl, rfl⟩
      rw [hv]
      first | (rw [decide_eq_true (by omega)]; exact ⟨rfl, rfl, rfl⟩) | (rw [decide_eq_false (by omega)]; exact ⟨rfl, rfl, rfl⟩)
theorem k_take {w : Int} (hw : i3 w) (hL : ∀ k, k < 36 → k ∈ L) (h : TsAt c a ts e i) : KA yX6_take cX6_take 3 (some .boolean) d [.ref 6, .int (iI w)] L g c a (fun r c' a' => r = some (.int (iI (b2i (tkIs ts i w)))) ∧ c' = (if tkIs ts i w then va_up c 65 ((i + 1 : Nat) : Int) else c) ∧ a' = a) := by
  unfold i3 at hw
  obtain ⟨⟨h1, h2⟩, h3, h4, ⟨h5, h6⟩, h7, h8⟩ := h
  refine KA.of (by decide +kernel) rfl (Nat.le_of_ble_eq_true rfl) (fun X C => ?_)
  by_cases hi : i < ts.length
  · have hti : ts[i]? = some ts[i] := List.getElem?_eq_getElem hi
    generalize ts[i] = t at hti
    have hr := h4 t (List.mem_of_getElem? hti)
    have hv : tkIs ts i w = decide (t.1 = w) := by unfold tkIs; rw [hti]
    by_cases htw : t.1 = w
    · rw [decide_eq_true htw] at hv
      refine C.aload_n dX6_take_0 rfl ?_
      refine C.getf gf_X6_30 dX6_take_1 (hL _ (by decide)) rfl rfl ?_
      refine C.topI (b := (i : Int)) h7 ?_
      refine C.if_ltI (tgt := 35) dX6_take_4 (by decide) (by omega) (fun hc4 => absurd hc4 (by omega)) (fun hc4 => ?_)
      refine C.aload_n dX6_take_7 rfl ?_
      refine C.getf gf_X6_30 dX6_take_8 (hL _ (by decide)) rfl rfl ?_
      refine C.topI (b := (i : Int)) h7 ?_
      refine C.aload_n dX6_take_11 rfl ?_
      refine C.getf gf_X6_23 dX6_take_12 (hL _ (by decide)) rfl rfl ?_
      refine C.topI (b := (ts.length : Int)) h1 ?_
      refine C.icmp_geI (tgt := 35) dX6_take_15 (by decide) (by omega) (by omega) (fun hc15 => absurd hc15 (by omega)) (fun hc15 => ?_)
      refine C.aload_n dX6_take_18 rfl ?_
      refine C.getf gf_X6_11 dX6_take_19 (hL _ (by decide)) rfl rfl ?_
      refine C.aload_n dX6_take_22 rfl ?_
      refine C.getf gf_X6_30 dX6_take_23 (hL _ (by decide)) rfl rfl ?_
      refine C.topI (b := (i : Int)) h7 ?_
      refine C.kald_7 hL dX6_take_26 rfl (by omega) ?_
      refine C.topI (b := t.1) (h3 i t hti).1 ?_
      refine C.iload_n dX6_take_27 rfl ?_
      refine C.icmp_neI (tgt := 35) dX6_take_28 (by decide) (by omega) (by omega) (fun hc28 => absurd hc28 (fun h => h htw)) (fun hc28 => ?_)
      refine C.ic dX6_take_31 ?_
      refine C.goto (tgt := 36) dX6_take_32 (by decide) ?_
      refine C.istore_n dX6_take_36 (by decide) rfl ?_
      refine C.iload_n dX6_take_37 rfl ?_
      refine C.if_eqI (tgt := 51) dX6_take_38 (by decide) (by omega) (fun hc38 => absurd hc38 (by omega)) (fun hc38 => ?_)
      refine C.aload_n dX6_take_41 rfl ?_
      refine C.dup dX6_take_42 rfl ?_
      refine C.getf gf_X6_30 dX6_take_43 (hL _ (by decide)) rfl rfl ?_
      refine C.topI (b := (i : Int)) h7 ?_
      refine C.ic dX6_take_46 ?_
      refine C.iaddI dX6_take_47 ?_
      refine C.kput_65 hL pf_X6_30 dX6_take_48 ?_
      refine C.iload_n dX6_take_51 rfl ?_
      refine C.retI rfl (by first | rfl | (exact (iI_bool (by first | exact Or.inl rfl | exact Or.inr rfl | assumption)).1)) dX6_take_52 (Nat.le_refl _) (Nat.le_refl _) ⟨_, _, ?_, rfl, rfl⟩
      rw [hv]
      exact ⟨rfl, rfl, rfl⟩
    · rw [decide_eq_false htw] at hv
      refine C.aload_n dX6_take_0 rfl ?_
      refine C.getf gf_X6_30 dX6_take_1 (hL _ (by decide)) rfl rfl ?_
      refine C.topI (b := (i : Int)) h7 ?_
      refine C.if_ltI (tgt := 35) dX6_take_4 (by decide) (by omega) (fun hc4 => absurd hc4 (by omega)) (fun hc4 => ?_)
      refine C.aload_n dX6_take_7 rfl ?_
      refine C.getf gf_X6_30 dX6_take_8 (hL _ (by decide)) rfl rfl ?_
      refine C.topI (b := (i : Int)) h7 ?_
      refine C.aload_n dX6_take_11 rfl ?_
      refine C.getf gf_X6_23 dX6_take_12 (hL _ (by decide)) rfl rfl ?_
      refine C.topI (b := (ts.length : Int)) h1 ?_
      refine C.icmp_geI (tgt := 35) dX6_take_15 (by decide) (by omega) (by omega) (fun hc15 => absurd hc15 (by omega)) (fun hc15 => ?_)
      refine C.aload_n dX6_take_18 rfl ?_
      refine C.getf gf_X6_11 dX6_take_19 (hL _ (by decide)) rfl rfl ?_
      refine C.aload_n dX6_take_22 rfl ?_
      refine C.getf gf_X6_30 dX6_take_23 (hL _ (by decide)) rfl rfl ?_
      refine C.topI (b := (i : Int)) h7 ?_
      refine C.kald_7 hL dX6_take_26 rfl (by omega) ?_
      refine C.topI (b := t.1) (h3 i t hti).1 ?_
      refine C.iload_n dX6_take_27 rfl ?_
      refine C.icmp_neI (tgt := 35) dX6_take_28 (by decide) (by omega) (by omega) (fun hc28 => ?_) (fun hc28 => absurd hc28 htw)
      refine C.ic dX6_take_35 ?_
      refine C.istore_n dX6_take_36 (by decide) rfl ?_
      refine C.iload_n dX6_take_37 rfl ?_
      refine C.if_eqI (tgt := 51) dX6_take_38 (by decide) (by omega) (fun hc38 => ?_) (fun hc38 => absurd hc38 (by omega))
      refine C.iload_n dX6_take_51 rfl ?_
      refine C.retI rfl (by first | rfl | (exact (iI_bool (by first | exact Or.inl rfl | exact Or.inr rfl | assumption)).1)) dX6_take_52 (Nat.le_refl _) (Nat.le_refl _) ⟨_, _, ?_, rfl, rfl⟩
      rw [hv]
      exact ⟨rfl, rfl, rfl⟩
  · have hti : ts[i]? = none := List.getElem?_eq_none (by omega)
    have hv : tkIs ts i w = false := by unfold tkIs; rw [hti]
    refine C.aload_n dX6_take_0 rfl ?_
    refine C.getf gf_X6_30 dX6_take_1 (hL _ (by decide)) rfl rfl ?_
    refine C.topI (b := (i : Int)) h7 ?_
    refine C.if_ltI (tgt := 35) dX6_take_4 (by decide) (by omega) (fun hc4 => absurd hc4 (by omega)) (fun hc4 => ?_)
    refine C.aload_n dX6_take_7 rfl ?_
    refine C.getf gf_X6_30 dX6_take_8 (hL _ (by decide)) rfl rfl ?_
    refine C.topI (b := (i : Int)) h7 ?_
    refine C.aload_n dX6_take_11 rfl ?_
    refine C.getf gf_X6_23 dX6_take_12 (hL _ (by decide)) rfl rfl ?_
    refine C.topI (b := (ts.length : Int)) h1 ?_
    refine C.icmp_geI (tgt := 35) dX6_take_15 (by decide) (by omega) (by omega) (fun hc15 => ?_) (fun hc15 => absurd hc15 (by omega))
    refine C.ic dX6_take_35 ?_
    refine C.istore_n dX6_take_36 (by decide) rfl ?_
    refine C.iload_n dX6_take_37 rfl ?_
    refine C.if_eqI (tgt := 51) dX6_take_38 (by decide) (by omega) (fun hc38 => ?_) (fun hc38 => absurd hc38 (by omega))
    refine C.iload_n dX6_take_51 rfl ?_
    refine C.retI rfl (by first | rfl | (exact (iI_bool (by first | exact Or.inl rfl | exact Or.inr rfl | assumption)).1)) dX6_take_52 (Nat.le_refl _) (Nat.le_refl _) ⟨_, _, ?_, rfl, rfl⟩
    rw [hv]
    exact ⟨rfl, rfl, rfl⟩
def tkNum (ts : List (Int × Int × Int)) (i : Nat) (lo hi : Int) : Int := if tkVal ts i < lo ∨ hi < tkVal ts i then -1 else tkVal ts i
theorem tkVal_rng (h : TsAt c a ts e i) : -1 ≤ tkVal ts i ∧ tkVal ts i ≤ 999 := by
  unfold tkVal
  split
  · rename_i t ht
    have := h.2.2.1 t (List.mem_of_getElem? ht)
    omega
  · omega
theorem k_takeNumber {lo hi : Int} (hlo : 0 ≤ lo ∧ lo < 1000) (hhi : 0 ≤ hi ∧ hi < 1000) (hd : 1 ≤ d) (hL : ∀ k, k < 36 → k ∈ L) (h : TsAt c a ts e i) : KA yX6_takeNumber cX6_takeNumber 4 (some .int) d [.ref 6, .int (iI lo), .int (iI hi)] L g c a (fun r c' a' => r = some (.int (iI (tkNum ts i lo hi))) ∧ c' = (if tkNum ts i lo hi < 0 then c else va_up c 65 ((i + 1 : Nat) : Int)) ∧ a' = a) := by
  have hM := k_value (d := d - 1) (g := g) hL h
  have hr := tkVal_rng h
  have h7 := h.2.2.2.2.1
  refine KA.of (by decide +kernel) rfl (Nat.le_of_ble_eq_true rfl) (fun X C => ?_)
  by_cases hq : tkVal ts i < lo ∨ hi < tkVal ts i
  · have hv : tkNum ts i lo hi = -1 := by unfold tkNum; rw [if_pos hq]
    refine C.aload_n dX6_takeNumber_0 rfl ?_
    refine C.kcall (hM) cw_X6_value ml_X6_35 im_X6_value sl_X6_value dX6_takeNumber_1 (hL _ (by decide)) rfl rfl rfl (by omega) (Nat.le_refl _) (Nat.le_refl _) (Nat.le_of_ble_eq_true rfl) rfl (fun r1 c1 a1 hR1 => ?_)
    obtain ⟨rfl, hs, ha⟩ := hR1
    rw [hs, ha]
    clear hs ha
    refine C.istore_n dX6_takeNumber_4 (by decide) rfl ?_
    refine C.iload_n dX6_takeNumber_5 rfl ?_
    refine C.iload_n dX6_takeNumber_6 rfl ?_
    refine C.icmp_ltI (tgt := 15) dX6_takeNumber_7 (by decide) (by omega) (by omega) (fun hc7 => ?_) (fun hc7 => ?_)
    · refine C.ic dX6_takeNumber_15 ?_
      refine C.retI rfl (by first | rfl | (exact (iI_bool (by first | exact Or.inl rfl | exact Or.inr rfl | assumption)).1)) dX6_takeNumber_16 (Nat.le_refl _) (Nat.le_refl _) ⟨_, _, ?_, rfl, rfl⟩
      rw [hv]
      exact ⟨rfl, rfl, rfl⟩
    · refine C.iload_n dX6_takeNumber_10 rfl ?_
      refine C.iload_n dX6_takeNumber_11 rfl ?_
      refine C.icmp_leI (tgt := 17) dX6_takeNumber_12 (by decide) (by omega) (by omega) (fun hc12 => absurd hc12 (by omega)) (fun hc12 => ?_)
      refine C.ic dX6_takeNumber_15 ?_
      refine C.retI rfl (by first | rfl | (exact (iI_bool (by first | exact Or.inl rfl | exact Or.inr rfl | assumption)).1)) dX6_takeNumber_16 (Nat.le_refl _) (Nat.le_refl _) ⟨_, _, ?_, rfl, rfl⟩
      rw [hv]
      exact ⟨rfl, rfl, rfl⟩
  · have hv : tkNum ts i lo hi = tkVal ts i := by unfold tkNum; rw [if_neg hq]
    refine C.aload_n dX6_takeNumber_0 rfl ?_
    refine C.kcall (hM) cw_X6_value ml_X6_35 im_X6_value sl_X6_value dX6_takeNumber_1 (hL _ (by decide)) rfl rfl rfl (by omega) (Nat.le_refl _) (Nat.le_refl _) (Nat.le_of_ble_eq_true rfl) rfl (fun r1 c1 a1 hR1 => ?_)
    obtain ⟨rfl, hs, ha⟩ := hR1
    rw [hs, ha]
    clear hs ha
    refine C.istore_n dX6_takeNumber_4 (by decide) rfl ?_
    refine C.iload_n dX6_takeNumber_5 rfl ?_
    refine C.iload_n dX6_takeNumber_6 rfl ?_
    refine C.icmp_ltI (tgt := 15) dX6_takeNumber_7 (by decide) (by omega) (by omega) (fun hc7 => absurd hc7 (by omega)) (fun hc7 => ?_)
    refine C.iload_n dX6_takeNumber_10 rfl ?_
    refine C.iload_n dX6_takeNumber_11 rfl ?_
    refine C.icmp_leI (tgt := 17) dX6_takeNumber_12 (by decide) (by omega) (by omega) (fun hc12 => ?_) (fun hc12 => absurd hc12 (by omega))
    refine C.aload_n dX6_takeNumber_17 rfl ?_
    refine C.dup dX6_takeNumber_18 rfl ?_
    refine C.getf gf_X6_30 dX6_takeNumber_19 (hL _ (by decide)) rfl rfl ?_
    refine C.topI (b := (i : Int)) h7 ?_
    refine C.ic dX6_takeNumber_22 ?_
    refine C.iaddI dX6_takeNumber_23 ?_
    refine C.kput_65 hL pf_X6_30 dX6_takeNumber_24 ?_
    refine C.iload_n dX6_takeNumber_27 rfl ?_
    refine C.retI rfl (by first | rfl | (exact (iI_bool (by first | exact Or.inl rfl | exact Or.inr rfl | assumption)).1)) dX6_takeNumber_28 (Nat.le_refl _) (Nat.le_refl _) ⟨_, _, ?_, rfl, rfl⟩
    rw [hv, if_neg (by omega)]
    exact ⟨rfl, rfl, rfl⟩
end THINGS
