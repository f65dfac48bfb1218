/-! what sentences tell -/
theorem tvL_bit (t : TT) (ht : isT t) : ∀ j : Nat, j < 64 → (tvL t).toBitVec.getLsbD j = tv (j : Int) t := by
  refine isT_ind (P := fun t => ∀ j : Nat, j < 64 → (tvL t).toBitVec.getLsbD j = tv (j : Int) t) ?_ ?_ ?_ ?_ t ht
  · intro n hn j hj
    have key : ∀ n : Fin 6, ∀ j : Fin 64, (tvL (.count n.val)).toBitVec.getLsbD j.val = tv (j.val : Int) (.count n.val) := by decide +kernel
    exact key ⟨n, by omega⟩ ⟨j, hj⟩
  · intro c hc ih j hj
    have h1 : (-1 : Int64).toBitVec = BitVec.allOnes 64 := by decide
    simp only [tvL, tv, Int64.toBitVec_xor, BitVec.getLsbD_xor, ih j hj, h1, BitVec.getLsbD_allOnes, hj, decide_true]
    cases tv (j : Int) c <;> rfl
  · intro a b _ _ ha hb j hj
    simp only [tvL, tv, Int64.toBitVec_and, BitVec.getLsbD_and, ha j hj, hb j hj]
  · intro a b _ _ ha hb j hj
    simp only [tvL, tv, Int64.toBitVec_or, BitVec.getLsbD_or, ha j hj, hb j hj]
theorem tv_mod (cs : Int) (t : TT) (ht : isT t) : tv cs t = tv (cs % 64) t := by
  refine isT_ind (P := fun t => tv cs t = tv (cs % 64) t) ?_ ?_ ?_ ?_ t ht
  · intro n hn
    have h : cs / 2 ^ n % 2 = cs % 64 / 2 ^ n % 2 := by
      have : n = 0 ∨ n = 1 ∨ n = 2 ∨ n = 3 ∨ n = 4 ∨ n = 5 := by omega
      rcases this with rfl | rfl | rfl | rfl | rfl | rfl <;> omega
    simp only [tv, h]
  · intro c _ ih
    simp only [tv]
    rw [ih]
  · intro a b _ _ ha hb
    simp only [tv]
    rw [ha, hb]
  · intro a b _ _ ha hb
    simp only [tv]
    rw [ha, hb]
def trW : Option TT → Int64
  | none => -1
  | some t => tvL t
def trU (z : Int64) : Option TT → Int64
  | none => z
  | some t => z &&& (tvL t ^^^ (-1))
/-- the cases in which a sentence counts -/
def trS (x : Sen) : Int64 := trU (trW x.2.2.1) x.2.2.2
theorem trW_bit {w : Option TT} (hw : tOk w) {j : Nat} (hj : j < 64) : (trW w).toBitVec.getLsbD j = twO (j : Int) w := by
  cases w with
  | none =>
    have h1 : (-1 : Int64).toBitVec = BitVec.allOnes 64 := by decide
    simp only [trW, twO, h1, BitVec.getLsbD_allOnes, hj, decide_true]
  | some t => exact tvL_bit t hw j hj
theorem trS_bit {x : Sen} (hw : tOk x.2.2.1) (hu : tOk x.2.2.2) {j : Nat} (hj : j < 64) : (trS x).toBitVec.getLsbD j = cnS (j : Int) x := by
  obtain ⟨bd, dy, w, u⟩ := x
  have h := trW_bit hw hj
  cases u with
  | none =>
    show (trW w).toBitVec.getLsbD j = (twO (j : Int) w && !false)
    rw [Bool.not_false, Bool.and_true]
    exact h
  | some t =>
    have h2 := tvL_bit (.not t) hu j hj
    show (trW w &&& tvL (.not t)).toBitVec.getLsbD j = (twO (j : Int) w && !tv (j : Int) t)
    rw [Int64.toBitVec_and, BitVec.getLsbD_and, h2]
    exact congrArg (fun b => b && !tv (j : Int) t) h
theorem cnS_mod {x : Sen} (hw : tOk x.2.2.1) (hu : tOk x.2.2.2) (cs : Int) : cnS cs x = cnS (cs % 64) x := by
  obtain ⟨bd, dy, w, u⟩ := x
  have h1 : twO cs w = twO (cs % 64) w := by
    cases w with
    | none => rfl
    | some t => exact tv_mod cs t hw
  have h2 : tuO cs u = tuO (cs % 64) u := by
    cases u with
    | none => rfl
    | some t => exact tv_mod cs t hu
  show (twO cs w && !tuO cs u) = (twO (cs % 64) w && !tuO (cs % 64) u)
  rw [h1, h2]
theorem bitAt (x : Int64) (j : Nat) (hj : j < 64) : ((x.toUInt64 >>> ((iI (j : Int)).toInt64.toUInt64 &&& Int64.toUInt64 63)).toInt64 &&& 1) = if x.toBitVec.getLsbD j then 1 else 0 := by
  have k1 : ∀ j : Fin 64, (((iI (j.val : Int)).toInt64.toUInt64 &&& Int64.toUInt64 63).toBitVec % 64) = BitVec.ofNat 64 j.val := by decide +kernel
  have k2 := k1 ⟨j, hj⟩
  apply Int64.toBitVec_inj.mp
  rw [Int64.toBitVec_and, UInt64.toBitVec_toInt64, UInt64.toBitVec_shiftRight, k2]
  apply BitVec.eq_of_getLsbD_eq
  intro i hi
  rw [BitVec.getLsbD_and, BitVec.ushiftRight_eq', BitVec.getLsbD_ushiftRight, BitVec.toNat_ofNat, Nat.mod_eq_of_lt (by omega)]
  have hx : x.toUInt64.toBitVec = x.toBitVec := rfl
  rw [hx]
  cases i with
  | zero =>
    by_cases h : x.toBitVec.getLsbD j
    · rw [if_pos h, Nat.add_zero, h]; rfl
    · rw [if_neg h, Nat.add_zero, Bool.eq_false_iff.mpr h]; rfl
  | succ i =>
    have h1 : (1 : Int64).toBitVec.getLsbD (i + 1) = false := by
      show (1#64).getLsbD (i + 1) = false
      simp
    rw [h1, Bool.and_false]
    split
    · exact h1.symm
    · show false = (0#64).getLsbD (i + 1)
      simp
theorem i_and63 (x : Int32) : x &&& iI 63 = iI (x.toInt % 64) := by
  apply Int32.toBitVec_inj.1
  show x.toBitVec &&& 63#32 = BitVec.ofInt 32 (x.toBitVec.toInt % 64)
  apply BitVec.eq_of_toNat_eq
  rw [BitVec.toNat_and, BitVec.toNat_ofInt, BitVec.toInt_eq_toNat_cond]
  have h := x.toBitVec.isLt
  generalize x.toBitVec.toNat = n at *
  rw [show (63#32).toNat = 2 ^ 6 - 1 from rfl, Nat.and_two_pow_sub_one_eq_mod]
  split <;> omega
theorem and63 {cs : Int} (h : i3 cs) : iI cs &&& iI 63 = iI (((cs % 64).toNat : Nat) : Int) := by
  rw [i_and63, iI_toInt h]
  congr 1
  omega
theorem askBit {x : Sen} (hw : tOk x.2.2.1) (hu : tOk x.2.2.2) {cs : Int} (h : i3 cs) : lg_cmp (((trS x).toUInt64 >>> ((iI cs &&& iI 63).toInt64.toUInt64 &&& Int64.toUInt64 63)).toInt64 &&& 1) 0 = iI (b2i (cnS cs x)) := by
  rw [and63 h, bitAt _ _ (by omega), trS_bit hw hu (by omega), show (((cs % 64).toNat : Nat) : Int) = cs % 64 by omega, ← cnS_mod hw hu]
  cases cnS cs x <;> decide
theorem OAt.cases {L : List Nat} {f : Nat → AC} {D : Nat} {o : Option Nat} {w : Option TT} (h : OAt L f D o w) : (o = none ∧ w = none) ∨ ∃ q t p, o = some q ∧ w = some t ∧ CAt L f D q t ∧ isT t ∧ (cd t 0).length ≤ 400 ∧ q ∈ L ∧ f q = .inr (3, CO t p) := by
  cases o with
  | none =>
    cases w with
    | none => exact Or.inl ⟨rfl, rfl⟩
    | some t => exact h.elim
  | some q =>
    cases w with
    | none => exact h.elim
    | some t =>
      obtain ⟨h1, h2, p, h3⟩ := h.1.obj
      exact Or.inr ⟨q, t, p, rfl, rfl, h.1, h.2.1, h.2.2, h1, h3⟩
theorem OAt.tOk {L : List Nat} {f : Nat → AC} {D : Nat} {o : Option Nat} {w : Option TT} (h : OAt L f D o w) : tOk w := by
  rcases h.cases with ⟨-, rfl⟩ | ⟨q, t, p, -, rfl, -, ht, -⟩
  · trivial
  · exact ht
theorem SAt.tOk {L : List Nat} {f : Nat → AC} {D k : Nat} {x : Sen} (h : SAt L f D k x) : tOk x.2.2.1 ∧ tOk x.2.2.2 := by
  obtain ⟨-, e, w, u, -, -, h5, h6⟩ := h
  exact ⟨h5.tOk, h6.tOk⟩
theorem wd_lt {t : TT} (ht : isT t) : wd t + 1 ≤ 4 * (cd t 0).length ∧ nt t ≤ (cd t 0).length := by
  have key : ∀ t, isT t → ∀ m, wd t + 1 ≤ 4 * (cd t m).length ∧ nt t ≤ (cd t m).length := by
    refine isT_ind (P := fun t => ∀ m, wd t + 1 ≤ 4 * (cd t m).length ∧ nt t ≤ (cd t m).length) ?_ ?_ ?_ ?_
    · intro n _ m; simp [wd, cd, nt]
    · intro c _ ih m
      have := ih 0
      simp only [wd, cd, nt, List.length_cons]
      omega
    · intro a b _ _ ha hb m
      have h1 := ha 1
      have h2 := hb 1
      simp only [wd, cd, nt, List.length_append]
      omega
    · intro a b _ _ ha hb m
      have h1 := ha 2
      have h2 := hb 2
      simp only [wd, cd, nt, List.length_append]
      omega
  exact key t ht 0
def aLk (x y : Sen) : Bool := decide (x.1.2.1 = y.1.2.1 ∧ x.1.2.2.1 = y.1.2.2.1 ∧ x.2.1 = y.2.1)
/-- words of a sentence, if it told n acts -/
def wdS (x : Sen) (n : Int) : Int := 3 * n - 1 + (if x.1.2.2.1 = 1 then 2 else 1) + (if x.1.2.2.2 = 0 then 0 else 2) + (if x.1.2.1 = 3 then 0 else if x.1.2.2.2 = 0 then 1 else 2) + wdO x.2.2.1 + wdO x.2.2.2 + (if x.2.1 = -1 then 0 else 2)
def prS (x : Sen) (n : Int) : Int := wdS x n + (if x.1.2.2.2 = 0 then 0 else 3) + 2 * ((ntO x.2.2.1 + ntO x.2.2.2 : Nat) : Int) + (if isS x.2.2.2 then 4 else 0) + 2 * (if 0 < wdS x n - 10 then wdS x n - 10 else 0) + 5
theorem wdS_snW {x : Sen} (hx : SOk x) : wdS x x.1.1.length = snW x := by
  obtain ⟨⟨⟨h1, h2, -⟩, h3, h4, h5, h6⟩, h7⟩ := hx
  unfold wdS snW bdW
  repeat' split
  all_goals omega
theorem prS_csS {x : Sen} (hx : SOk x) : prS x x.1.1.length = csS x := by
  unfold prS csS
  rw [wdS_snW hx]
  repeat' split
  all_goals omega
section TOPV
variable {own : String} {cc : ByteArray} {nL : Nat} {rt : Option FieldType} {ini : Bool} {d mc ms : Nat} {Po : AT} {X : XT} {ce sl pc : Nat} {L : List Nat} {f : Nat → AC} {lv : List (Option Value)} {st : List Value}
theorem Cx.topV (C : Cx own cc nL rt ini d mc ms Po X) {a b : Value} (h : a = b) (k : X ce sl L f pc lv (b :: st)) : X ce sl L f pc lv (a :: st) := h ▸ k
end TOPV
section SEN2
variable {d D k : Nat} {x : Sen} {L : List Nat} {f : Nat → AC}
set_option maxRecDepth 20000 in
set_option maxHeartbeats 2000000 in
theorem s_names {a : Int} (ha : i3 a) (h : SAt L f D k x) (hx : SOk x) : AM yX3_names cX3_names 6 (some .boolean) d 0 0 [.ref k, .int (iI a)] L f (SP (some (.int (iI (b2i (hA x a))))) L f) := by
  obtain ⟨⟨hk, hk2⟩, e, w, u, hf, ⟨he, he2, g, hfe, hg⟩, hw, hu⟩ := h
  obtain ⟨h3, h1, h9, -⟩ := hx.1.1
  unfold i3 at ha
  refine AM.of (by decide +kernel) (by simp [Value.category]) (Nat.le_of_ble_eq_true rfl) false (fun h => by cases h) (fun X C => ?_)
  have loop : ∀ (ys done : List Int), x.1.1 = done ++ ys → done.any (fun v => decide (v = a)) = false → ∀ v5, X 0 0 L f 11 [some (.ref k), some (.int (iI a)), some (.ref e), some (.int (iI x.1.1.length)), some (.int (iI done.length)), v5] [] := by
    intro ys
    induction ys with
    | nil =>
      intro done hdn hno v5
      rw [List.append_nil] at hdn
      have hz : hA x a = false := by unfold hA; rw [hdn]; exact hno
      refine C.iload dX3_names_11 rfl ?_
      refine C.iload_n dX3_names_13 rfl ?_
      refine C.icmp_geI (tgt := 37) dX3_names_14 (by decide) (by rw [hdn] at h3; omega) (by omega) (fun hc14 => ?_) (fun hc14 => absurd hc14 (by rw [hdn]; omega))
      refine C.ic dX3_names_37 ?_
      refine C.retI rfl (by first | rfl | (exact (iI_bool (by first | exact Or.inl rfl | exact Or.inr rfl | assumption)).1)) dX3_names_38 (Nat.le_refl _) (Nat.le_refl _) ⟨by rw [hz]; rfl, rfl, rfl⟩
      skip
    | cons y ys ih =>
      intro done hdn hno v5
      have hll : x.1.1.length = done.length + (ys.length + 1) := by rw [hdn, List.length_append, List.length_cons]
      have hyi : x.1.1[done.length]? = some y := by rw [hdn, List.getElem?_append_right (Nat.le_refl _), Nat.sub_self]; rfl
      have hgi := hg _ y hyi
      have hy := h9 y (List.mem_of_getElem? hyi)
      have nx := ih (done ++ [y]) (by rw [hdn, List.append_assoc]; rfl)
      have hyes : y = a → hA x a = true := fun e => by
        unfold hA
        rw [hdn, List.any_append, List.any_cons, decide_eq_true e]
        simp
      refine C.iload dX3_names_11 rfl ?_
      refine C.iload_n dX3_names_13 rfl ?_
      refine C.icmp_geI (tgt := 37) dX3_names_14 (by decide) (by omega) (by omega) (fun hc14 => absurd hc14 (by omega)) (fun hc14 => ?_)
      refine C.aload_n dX3_names_17 rfl ?_
      refine C.iload dX3_names_18 rfl ?_
      refine C.ialdI dX3_names_20 he hfe (by omega) (by omega) ?_
      rw [Int.toNat_natCast, hgi]
      refine C.istore dX3_names_21 (by decide) rfl ?_
      refine C.iload dX3_names_23 rfl ?_
      refine C.iload_n dX3_names_25 rfl ?_
      refine C.icmp_neI (tgt := 31) dX3_names_26 (by decide) (by omega) (by omega) (fun hc26 => ?_) (fun hc26 => ?_)
      · rw [List.length_append] at nx
        refine C.iincI dX3_names_31 rfl (by decide) rfl ?_
        refine C.goto (tgt := 11) dX3_names_34 (by decide) ?_
        exact nx (by rw [List.any_append, hno, List.any_cons, decide_eq_false hc26]; rfl) _
      · replace hc26 : y = a := by omega
        refine C.ic dX3_names_29 ?_
        refine C.retI rfl (by first | rfl | (exact (iI_bool (by first | exact Or.inl rfl | exact Or.inr rfl | assumption)).1)) dX3_names_30 (Nat.le_refl _) (Nat.le_refl _) ⟨by rw [hyes hc26]; rfl, rfl, rfl⟩
        skip
  have l0 := loop x.1.1 [] rfl rfl
  refine C.aload_n dX3_names_0 rfl ?_
  refine C.getf gf_X3_25 dX3_names_1 hk hf rfl ?_
  refine C.astore_n dX3_names_4 (by decide) rfl ?_
  refine C.aload_n dX3_names_5 rfl ?_
  refine C.alenI dX3_names_6 he hfe (by decide) ?_
  refine C.istore_n dX3_names_7 (by decide) rfl ?_
  refine C.ic dX3_names_8 ?_
  refine C.istore dX3_names_9 (by decide) rfl ?_
  exact l0 _
theorem s_asksLike {k2 D2 : Nat} {y : Sen} (h : SAt L f D k x) (hx : SOk x) (h' : SAt L f D2 k2 y) (hy : SOk y) : AM yX3_asksLike cX3_asksLike 2 (some .boolean) d 0 0 [.ref k, .ref k2] L f (SP (some (.int (iI (b2i (aLk x y))))) L f) := by
  obtain ⟨⟨hk, hk2⟩, e, w, u, hf, he, hw, hu⟩ := h
  obtain ⟨⟨hk', hk2'⟩, e', w', u', hf', he', hw', hu'⟩ := h'
  obtain ⟨⟨-, a1, a2, a3, -⟩, a4⟩ := hx
  obtain ⟨⟨-, b1, b2, b3, -⟩, b4⟩ := hy
  refine AM.of (by decide +kernel) (by simp [Value.category]) (Nat.le_of_ble_eq_true rfl) false (fun h => by cases h) (fun X C => ?_)
  refine C.aload_n dX3_asksLike_0 rfl ?_
  refine C.getf gf_X3_9 dX3_asksLike_1 hk hf rfl ?_
  refine C.aload_n dX3_asksLike_4 rfl ?_
  refine C.getf gf_X3_9 dX3_asksLike_5 hk' hf' rfl ?_
  refine C.icmp_neI (tgt := 37) dX3_asksLike_8 (by decide) (by omega) (by omega) (fun hc8 => ?_) (fun hc8 => ?_)
  · refine C.ic dX3_asksLike_37 ?_
    refine C.topI (b := b2i (aLk x y)) (by unfold aLk b2i; split <;> simp_all) ?_
    refine C.retI rfl (iI_bool (b2i_01 _)).1 dX3_asksLike_38 (Nat.le_refl _) (Nat.le_refl _) ⟨rfl, rfl, rfl⟩
    skip
  · refine C.aload_n dX3_asksLike_11 rfl ?_
    refine C.getf gf_X3_15 dX3_asksLike_12 hk hf rfl ?_
    refine C.aload_n dX3_asksLike_15 rfl ?_
    refine C.getf gf_X3_15 dX3_asksLike_16 hk' hf' rfl ?_
    refine C.icmp_neI (tgt := 37) dX3_asksLike_19 (by decide) (by omega) (by omega) (fun hc19 => ?_) (fun hc19 => ?_)
    · refine C.ic dX3_asksLike_37 ?_
      refine C.topI (b := b2i (aLk x y)) (by unfold aLk b2i; split <;> simp_all) ?_
      refine C.retI rfl (iI_bool (b2i_01 _)).1 dX3_asksLike_38 (Nat.le_refl _) (Nat.le_refl _) ⟨rfl, rfl, rfl⟩
      skip
    · refine C.aload_n dX3_asksLike_22 rfl ?_
      refine C.getf gf_X3_18 dX3_asksLike_23 hk hf rfl ?_
      refine C.aload_n dX3_asksLike_26 rfl ?_
      refine C.getf gf_X3_18 dX3_asksLike_27 hk' hf' rfl ?_
      refine C.icmp_neI (tgt := 37) dX3_asksLike_30 (by decide) (by omega) (by omega) (fun hc30 => ?_) (fun hc30 => ?_)
      · refine C.ic dX3_asksLike_37 ?_
        refine C.topI (b := b2i (aLk x y)) (by unfold aLk b2i; split <;> simp_all) ?_
        refine C.retI rfl (iI_bool (b2i_01 _)).1 dX3_asksLike_38 (Nat.le_refl _) (Nat.le_refl _) ⟨rfl, rfl, rfl⟩
        skip
      · refine C.ic dX3_asksLike_33 ?_
        refine C.goto (tgt := 38) dX3_asksLike_34 (by decide) ?_
        refine C.topI (b := b2i (aLk x y)) (by unfold aLk b2i; split <;> simp_all) ?_
        refine C.retI rfl (iI_bool (b2i_01 _)).1 dX3_asksLike_38 (Nat.le_refl _) (Nat.le_refl _) ⟨rfl, rfl, rfl⟩
        skip
theorem s_truth (h : SAt L f D k x) : AM yX3_truth cX3_truth 3 (some .long) d 0 0 [.ref k] L f (SP (some (.long (trS x))) L f) := by
  obtain ⟨⟨hk, hk2⟩, e, w, u, hf, he, hw, hu⟩ := h
  unfold trS
  refine AM.of (by decide +kernel) (by simp [Value.category]) (Nat.le_of_ble_eq_true rfl) false (fun h => by cases h) (fun X C => ?_)
  have fin : X 0 0 L f 20 [some (.ref k), none, none] [.long (trW x.2.2.1)] := by
    refine C.lstore_n dX3_truth_20 (by decide) rfl ?_
    refine C.aload_n dX3_truth_21 rfl ?_
    refine C.getf gf_X3_33 dX3_truth_22 hk hf rfl ?_
    skip
    rcases hu.cases with ⟨rfl, eu⟩ | ⟨q, t, p, rfl, eu, hC, ht, hl, hqL, hfq⟩
    · skip
      refine C.ifnonnullN dX3_truth_25 ?_
      refine C.lload_n dX3_truth_28 rfl ?_
      refine C.goto (tgt := 45) dX3_truth_29 (by decide) ?_
      refine C.lret rfl dX3_truth_45 (Nat.le_refl _) (Nat.le_refl _) ⟨by rw [eu]; rfl, rfl, rfl⟩
      skip
    · skip
      refine C.ifnonnull (tgt := 32) dX3_truth_25 (by decide) ?_
      refine C.lload_n dX3_truth_32 rfl ?_
      refine C.aload_n dX3_truth_33 rfl ?_
      refine C.getf gf_X3_33 dX3_truth_34 hk hf rfl ?_
      refine C.getf gf_X3_80 dX3_truth_37 hqL hfq rfl ?_
      refine C.ldcl dX3_truth_40 kc_X3_78 ?_
      refine C.lxor dX3_truth_43 ?_
      refine C.land dX3_truth_44 ?_
      refine C.lret rfl dX3_truth_45 (Nat.le_refl _) (Nat.le_refl _) ⟨by rw [eu]; rfl, rfl, rfl⟩
      skip
  refine C.aload_n dX3_truth_0 rfl ?_
  refine C.getf gf_X3_29 dX3_truth_1 hk hf rfl ?_
  skip
  rcases hw.cases with ⟨rfl, ew⟩ | ⟨q, t, p, rfl, ew, hC, ht, hl, hqL, hfq⟩
  · rw [ew] at fin
    refine C.ifnonnullN dX3_truth_4 ?_
    refine C.ldcl dX3_truth_7 kc_X3_78 ?_
    refine C.goto (tgt := 20) dX3_truth_10 (by decide) ?_
    exact fin
  · rw [ew] at fin
    refine C.ifnonnull (tgt := 13) dX3_truth_4 (by decide) ?_
    refine C.aload_n dX3_truth_13 rfl ?_
    refine C.getf gf_X3_29 dX3_truth_14 hk hf rfl ?_
    refine C.getf gf_X3_80 dX3_truth_17 hqL hfq rfl ?_
    exact fin
theorem s_asks {wh ac cs : Int} (hd : 1 ≤ d) (i1 : i3 wh) (i2 : i3 ac) (i4 : i3 cs) (h : SAt L f D k x) (hx : SOk x) : AM yX3_asks cX3_asks 4 (some .boolean) d 0 0 [.ref k, .int (iI wh), .int (iI ac), .int (iI cs)] L f (SP (some (.int (iI (b2i (akQ wh ac cs x))))) L f) := by
  have M1 := s_names (d := d - 1) i2 h hx
  have M2 := s_truth (d := d - 1) h
  have hab := askBit h.tOk.1 h.tOk.2 i4
  obtain ⟨⟨hk, hk2⟩, e, w, u, hf, he, hw, hu⟩ := h
  obtain ⟨⟨-, a1, a2, a3, -⟩, a4⟩ := hx
  have r1 := b2i_r3 (hA x ac)
  have r2 := b2i_r3 (cnS cs x)
  unfold i3 at i1
  refine AM.of (by decide +kernel) (by simp [Value.category]) (Nat.le_of_ble_eq_true rfl) false (fun h => by cases h) (fun X C => ?_)
  refine C.aload_n dX3_asks_0 rfl ?_
  refine C.getf gf_X3_9 dX3_asks_1 hk hf rfl ?_
  refine C.iload_n dX3_asks_4 rfl ?_
  refine C.icmp_neI (tgt := 36) dX3_asks_5 (by decide) (by omega) (by omega) (fun hc5 => ?_) (fun hc5 => ?_)
  · refine C.ic dX3_asks_36 ?_
    refine C.topI (b := b2i (akQ wh ac cs x)) (by unfold akQ; first | (rw [b2i_f hc29]; simp [b2i]; done) | (rw [b2i_f hc13]; simp [b2i]; done) | (rw [decide_eq_false hc5]; rfl) | (rw [b2i_t hc13, b2i_t hc29, decide_eq_true (by omega)]; rfl)) ?_
    refine C.retI rfl (iI_bool (b2i_01 _)).1 dX3_asks_37 (Nat.le_refl _) (Nat.le_refl _) ⟨rfl, rfl, rfl⟩
    skip
  · refine C.aload_n dX3_asks_8 rfl ?_
    refine C.iload_n dX3_asks_9 rfl ?_
    refine C.callV (M1) cw_X3_names ml_X3_64 im_X3_names sl_X3_names dX3_asks_10 hk hf rfl rfl (by omega) (Nat.le_refl _) (Nat.le_refl _) (Nat.le_of_ble_eq_true rfl) rfl (fun r10 L10 f10 hR10 => ?_)
    obtain ⟨rfl, hL9, hf9⟩ := hR10
    rw [hL9, hf9]
    clear hL9 hf9
    refine C.if_eqI (tgt := 36) dX3_asks_13 (by decide) r1 (fun hc13 => ?_) (fun hc13 => ?_)
    · refine C.ic dX3_asks_36 ?_
      refine C.topI (b := b2i (akQ wh ac cs x)) (by unfold akQ; first | (rw [b2i_f hc29]; simp [b2i]; done) | (rw [b2i_f hc13]; simp [b2i]; done) | (rw [decide_eq_false hc5]; rfl) | (rw [b2i_t hc13, b2i_t hc29, decide_eq_true (by omega)]; rfl)) ?_
      refine C.retI rfl (iI_bool (b2i_01 _)).1 dX3_asks_37 (Nat.le_refl _) (Nat.le_refl _) ⟨rfl, rfl, rfl⟩
      skip
    · refine C.aload_n dX3_asks_16 rfl ?_
      refine C.callV (M2) cw_X3_truth ml_X3_84 im_X3_truth sl_X3_truth dX3_asks_17 hk hf rfl rfl (by omega) (Nat.le_refl _) (Nat.le_refl _) (Nat.le_of_ble_eq_true rfl) rfl (fun r17 L17 f17 hR17 => ?_)
      obtain ⟨rfl, hL9, hf9⟩ := hR17
      rw [hL9, hf9]
      clear hL9 hf9
      refine C.iload_n dX3_asks_20 rfl ?_
      refine C.bi dX3_asks_21 (by decide) ?_
      refine C.iand dX3_asks_23 ?_
      refine C.lushr dX3_asks_24 ?_
      refine C.lconst dX3_asks_25 rfl ?_
      refine C.land dX3_asks_26 ?_
      refine C.lconst dX3_asks_27 rfl ?_
      refine C.lcmp dX3_asks_28 ?_
      refine C.topV (congrArg Value.int hab) ?_
      refine C.if_eqI (tgt := 36) dX3_asks_29 (by decide) r2 (fun hc29 => ?_) (fun hc29 => ?_)
      · refine C.ic dX3_asks_36 ?_
        refine C.topI (b := b2i (akQ wh ac cs x)) (by unfold akQ; first | (rw [b2i_f hc29]; simp [b2i]; done) | (rw [b2i_f hc13]; simp [b2i]; done) | (rw [decide_eq_false hc5]; rfl) | (rw [b2i_t hc13, b2i_t hc29, decide_eq_true (by omega)]; rfl)) ?_
        refine C.retI rfl (iI_bool (b2i_01 _)).1 dX3_asks_37 (Nat.le_refl _) (Nat.le_refl _) ⟨rfl, rfl, rfl⟩
        skip
      · refine C.ic dX3_asks_32 ?_
        refine C.goto (tgt := 37) dX3_asks_33 (by decide) ?_
        refine C.topI (b := b2i (akQ wh ac cs x)) (by unfold akQ; first | (rw [b2i_f hc29]; simp [b2i]; done) | (rw [b2i_f hc13]; simp [b2i]; done) | (rw [decide_eq_false hc5]; rfl) | (rw [b2i_t hc13, b2i_t hc29, decide_eq_true (by omega)]; rfl)) ?_
        refine C.retI rfl (iI_bool (b2i_01 _)).1 dX3_asks_37 (Nat.le_refl _) (Nat.le_refl _) ⟨rfl, rfl, rfl⟩
        skip
theorem wdO_rng {w : Option TT} {D : Nat} {o : Option Nat} (h : OAt L f D o w) : wdO w ≤ 1600 ∧ ntO w ≤ 400 := by
  rcases h.cases with ⟨-, rfl⟩ | ⟨q, t, p, -, rfl, hC, ht, hl, -⟩
  · exact ⟨by decide, by decide⟩
  · have := wd_lt ht
    show wd t + 1 ≤ 1600 ∧ nt t ≤ 400
    omega
set_option maxRecDepth 20000 in
set_option maxHeartbeats 2000000 in
theorem s_words {n : Int} (hn : 0 ≤ n ∧ n ≤ 3) (h : SAt L f D k x) (hx : SOk x) : AM yX3_words cX3_words 3 (some .int) d 0 0 [.ref k, .int (iI n)] L f (SP (some (.int (iI (wdS x n)))) L f) := by
  obtain ⟨⟨hk, hk2⟩, e, w, u, hf, he, hw, hu⟩ := h
  obtain ⟨⟨-, a1, a2, a3, -⟩, a4⟩ := hx
  have w1 := wdO_rng hw
  have w2 := wdO_rng hu
  refine AM.of (by decide +kernel) (by simp [Value.category]) (Nat.le_of_ble_eq_true rfl) false (fun h => by cases h) (fun X C => ?_)
  have j110 : ∀ z : Int, z + (if x.2.1 = -1 then 0 else 2) = wdS x n → X 0 0 L f 110 [some (.ref k), some (.int (iI n)), some (.int (iI z))] [] := by
    intro z hz
    refine C.aload_n dX3_words_110 rfl ?_
    refine C.getf gf_X3_18 dX3_words_111 hk hf rfl ?_
    refine C.ic dX3_words_114 ?_
    refine C.icmp_neI (tgt := 122) dX3_words_115 (by decide) (by omega) (by omega) (fun hc115 => ?_) (fun hc115 => ?_)
    · refine C.iload_n dX3_words_122 rfl ?_
      refine C.ic dX3_words_123 ?_
      refine C.iaddI dX3_words_124 ?_
      refine C.topI (b := wdS x n) (by first | (rw [if_pos (by omega)] at hz; omega) | (rw [if_neg (by omega)] at hz; omega)) ?_
      refine C.retI rfl (by first | rfl | (exact (iI_bool (by first | exact Or.inl rfl | exact Or.inr rfl | assumption)).1)) dX3_words_125 (Nat.le_refl _) (Nat.le_refl _) ⟨rfl, rfl, rfl⟩
      skip
    · refine C.iload_n dX3_words_118 rfl ?_
      refine C.goto (tgt := 125) dX3_words_119 (by decide) ?_
      refine C.topI (b := wdS x n) (by first | (rw [if_pos (by omega)] at hz; omega) | (rw [if_neg (by omega)] at hz; omega)) ?_
      refine C.retI rfl (by first | rfl | (exact (iI_bool (by first | exact Or.inl rfl | exact Or.inr rfl | assumption)).1)) dX3_words_125 (Nat.le_refl _) (Nat.le_refl _) ⟨rfl, rfl, rfl⟩
      skip
  have j87 : ∀ z : Int, z + wdO x.2.2.2 + (if x.2.1 = -1 then 0 else 2) = wdS x n → X 0 0 L f 87 [some (.ref k), some (.int (iI n)), some (.int (iI z))] [] := by
    intro z hz
    refine C.iload_n dX3_words_87 rfl ?_
    refine C.aload_n dX3_words_88 rfl ?_
    refine C.getf gf_X3_33 dX3_words_89 hk hf rfl ?_
    skip
    rcases hu.cases with ⟨rfl, eu⟩ | ⟨q, t, p, rfl, eu, hC, ht, hl, hqL, hfq⟩
    · rw [eu] at hz
      refine C.ifnonnullN dX3_words_92 ?_
      refine C.ic dX3_words_95 ?_
      refine C.goto (tgt := 108) dX3_words_96 (by decide) ?_
      refine C.iaddI dX3_words_108 ?_
      refine C.istore_n dX3_words_109 (by decide) rfl ?_
      exact j110 _ (by rw [← hz]; simp [wdO])
    · rw [eu] at hz
      refine C.ifnonnull (tgt := 99) dX3_words_92 (by decide) ?_
      refine C.ic dX3_words_99 ?_
      refine C.aload_n dX3_words_100 rfl ?_
      refine C.getf gf_X3_33 dX3_words_101 hk hf rfl ?_
      refine C.getf gf_X3_87 dX3_words_104 hqL hfq rfl ?_
      refine C.iaddI dX3_words_107 ?_
      refine C.iaddI dX3_words_108 ?_
      refine C.istore_n dX3_words_109 (by decide) rfl ?_
      exact j110 _ (by rw [← hz]; simp only [wdO]; omega)
  have j64 : ∀ z : Int, z + wdO x.2.2.1 + wdO x.2.2.2 + (if x.2.1 = -1 then 0 else 2) = wdS x n → X 0 0 L f 64 [some (.ref k), some (.int (iI n)), some (.int (iI z))] [] := by
    intro z hz
    refine C.iload_n dX3_words_64 rfl ?_
    refine C.aload_n dX3_words_65 rfl ?_
    refine C.getf gf_X3_29 dX3_words_66 hk hf rfl ?_
    skip
    rcases hw.cases with ⟨rfl, eu⟩ | ⟨q, t, p, rfl, eu, hC, ht, hl, hqL, hfq⟩
    · rw [eu] at hz
      refine C.ifnonnullN dX3_words_69 ?_
      refine C.ic dX3_words_72 ?_
      refine C.goto (tgt := 85) dX3_words_73 (by decide) ?_
      refine C.iaddI dX3_words_85 ?_
      refine C.istore_n dX3_words_86 (by decide) rfl ?_
      exact j87 _ (by rw [← hz]; simp [wdO])
    · rw [eu] at hz
      refine C.ifnonnull (tgt := 76) dX3_words_69 (by decide) ?_
      refine C.ic dX3_words_76 ?_
      refine C.aload_n dX3_words_77 rfl ?_
      refine C.getf gf_X3_29 dX3_words_78 hk hf rfl ?_
      refine C.getf gf_X3_87 dX3_words_81 hqL hfq rfl ?_
      refine C.iaddI dX3_words_84 ?_
      refine C.iaddI dX3_words_85 ?_
      refine C.istore_n dX3_words_86 (by decide) rfl ?_
      exact j87 _ (by rw [← hz]; simp only [wdO]; omega)
  have j37 : ∀ z : Int, z + (if x.1.2.1 = 3 then 0 else if x.1.2.2.2 = 0 then 1 else 2) + wdO x.2.2.1 + wdO x.2.2.2 + (if x.2.1 = -1 then 0 else 2) = wdS x n → X 0 0 L f 37 [some (.ref k), some (.int (iI n)), some (.int (iI z))] [] := by
    intro z hz
    refine C.iload_n dX3_words_37 rfl ?_
    refine C.aload_n dX3_words_38 rfl ?_
    refine C.getf gf_X3_9 dX3_words_39 hk hf rfl ?_
    refine C.ic dX3_words_42 ?_
    refine C.icmp_neI (tgt := 50) dX3_words_43 (by decide) (by omega) (by omega) (fun hc43 => ?_) (fun hc43 => ?_)
    · refine C.aload_n dX3_words_50 rfl ?_
      refine C.getf gf_X3_21 dX3_words_51 hk hf rfl ?_
      refine C.if_eqI (tgt := 61) dX3_words_54 (by decide) (by omega) (fun hc54 => ?_) (fun hc54 => ?_)
      · refine C.ic dX3_words_61 ?_
        refine C.iaddI dX3_words_62 ?_
        refine C.istore_n dX3_words_63 (by decide) rfl ?_
        exact j64 _ (by rw [← hz]; (repeat' split) <;> omega)
      · refine C.ic dX3_words_57 ?_
        refine C.goto (tgt := 62) dX3_words_58 (by decide) ?_
        refine C.iaddI dX3_words_62 ?_
        refine C.istore_n dX3_words_63 (by decide) rfl ?_
        exact j64 _ (by rw [← hz]; (repeat' split) <;> omega)
    · refine C.ic dX3_words_46 ?_
      refine C.goto (tgt := 62) dX3_words_47 (by decide) ?_
      refine C.iaddI dX3_words_62 ?_
      refine C.istore_n dX3_words_63 (by decide) rfl ?_
      exact j64 _ (by rw [← hz]; (repeat' split) <;> omega)
  have j22 : ∀ z : Int, z + (if x.1.2.2.2 = 0 then 0 else 2) + (if x.1.2.1 = 3 then 0 else if x.1.2.2.2 = 0 then 1 else 2) + wdO x.2.2.1 + wdO x.2.2.2 + (if x.2.1 = -1 then 0 else 2) = wdS x n → X 0 0 L f 22 [some (.ref k), some (.int (iI n)), some (.int (iI z))] [] := by
    intro z hz
    refine C.iload_n dX3_words_22 rfl ?_
    refine C.aload_n dX3_words_23 rfl ?_
    refine C.getf gf_X3_21 dX3_words_24 hk hf rfl ?_
    refine C.if_eqI (tgt := 34) dX3_words_27 (by decide) (by omega) (fun hc27 => ?_) (fun hc27 => ?_)
    · refine C.ic dX3_words_34 ?_
      refine C.iaddI dX3_words_35 ?_
      refine C.istore_n dX3_words_36 (by decide) rfl ?_
      exact j37 _ (by rw [← hz]; (repeat' split) <;> omega)
    · refine C.ic dX3_words_30 ?_
      refine C.goto (tgt := 35) dX3_words_31 (by decide) ?_
      refine C.iaddI dX3_words_35 ?_
      refine C.istore_n dX3_words_36 (by decide) rfl ?_
      exact j37 _ (by rw [← hz]; (repeat' split) <;> omega)
  refine C.ic dX3_words_0 ?_
  refine C.iload_n dX3_words_1 rfl ?_
  refine C.imulI dX3_words_2 ?_
  refine C.ic dX3_words_3 ?_
  refine C.isubI dX3_words_4 ?_
  refine C.istore_n dX3_words_5 (by decide) rfl ?_
  refine C.iload_n dX3_words_6 rfl ?_
  refine C.aload_n dX3_words_7 rfl ?_
  refine C.getf gf_X3_15 dX3_words_8 hk hf rfl ?_
  refine C.ic dX3_words_11 ?_
  refine C.icmp_neI (tgt := 19) dX3_words_12 (by decide) (by omega) (by omega) (fun hc12 => ?_) (fun hc12 => ?_)
  · refine C.ic dX3_words_19 ?_
    refine C.iaddI dX3_words_20 ?_
    refine C.istore_n dX3_words_21 (by decide) rfl ?_
    exact j22 _ (by unfold wdS; (repeat' split) <;> omega)
  · refine C.ic dX3_words_15 ?_
    refine C.goto (tgt := 20) dX3_words_16 (by decide) ?_
    refine C.iaddI dX3_words_20 ?_
    refine C.istore_n dX3_words_21 (by decide) rfl ?_
    exact j22 _ (by unfold wdS; (repeat' split) <;> omega)
theorem s_nots (h : SAt L f D k x) : AM yX3_nots cX3_nots 1 (some .int) d 0 0 [.ref k] L f (SP (some (.int (iI ((ntO x.2.2.1 + ntO x.2.2.2 : Nat) : Int)))) L f) := by
  obtain ⟨⟨hk, hk2⟩, e, w, u, hf, he, hw, hu⟩ := h
  refine AM.of (by decide +kernel) (by simp [Value.category]) (Nat.le_of_ble_eq_true rfl) false (fun h => by cases h) (fun X C => ?_)
  have fin : X 0 0 L f 18 [some (.ref k)] [.int (iI (ntO x.2.2.1))] := by
    refine C.aload_n dX3_nots_18 rfl ?_
    refine C.getf gf_X3_33 dX3_nots_19 hk hf rfl ?_
    skip
    rcases hu.cases with ⟨rfl, eu⟩ | ⟨q, t, p, rfl, eu, hC, ht, hl, hqL, hfq⟩
    · skip
      refine C.ifnonnullN dX3_nots_22 ?_
      refine C.ic dX3_nots_25 ?_
      refine C.goto (tgt := 36) dX3_nots_26 (by decide) ?_
      refine C.iaddI dX3_nots_36 ?_
      refine C.retI rfl (by first | rfl | (exact (iI_bool (by first | exact Or.inl rfl | exact Or.inr rfl | assumption)).1)) dX3_nots_37 (Nat.le_refl _) (Nat.le_refl _) ⟨by rw [eu]; rfl, rfl, rfl⟩
      skip
    · skip
      refine C.ifnonnull (tgt := 29) dX3_nots_22 (by decide) ?_
      refine C.aload_n dX3_nots_29 rfl ?_
      refine C.getf gf_X3_33 dX3_nots_30 hk hf rfl ?_
      refine C.getf gf_X3_90 dX3_nots_33 hqL hfq rfl ?_
      refine C.iaddI dX3_nots_36 ?_
      refine C.retI rfl (by first | rfl | (exact (iI_bool (by first | exact Or.inl rfl | exact Or.inr rfl | assumption)).1)) dX3_nots_37 (Nat.le_refl _) (Nat.le_refl _) ⟨by rw [eu]; rfl, rfl, rfl⟩
      skip
  refine C.aload_n dX3_nots_0 rfl ?_
  refine C.getf gf_X3_29 dX3_nots_1 hk hf rfl ?_
  skip
  rcases hw.cases with ⟨rfl, ew⟩ | ⟨q, t, p, rfl, ew, hC, ht, hl, hqL, hfq⟩
  · rw [ew] at fin
    refine C.ifnonnullN dX3_nots_4 ?_
    refine C.ic dX3_nots_7 ?_
    refine C.goto (tgt := 18) dX3_nots_8 (by decide) ?_
    exact fin
  · rw [ew] at fin
    refine C.ifnonnull (tgt := 11) dX3_nots_4 (by decide) ?_
    refine C.aload_n dX3_nots_11 rfl ?_
    refine C.getf gf_X3_29 dX3_nots_12 hk hf rfl ?_
    refine C.getf gf_X3_90 dX3_nots_15 hqL hfq rfl ?_
    exact fin
end SEN2
