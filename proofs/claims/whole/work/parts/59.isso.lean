theorem i_and1 (x : Int32) : x &&& iI 1 = iI (x.toInt % 2) := by
  apply Int32.toBitVec_inj.1
  show x.toBitVec &&& 1#32 = BitVec.ofInt 32 (x.toBitVec.toInt % 2)
  apply BitVec.eq_of_toNat_eq
  rw [BitVec.toNat_and, BitVec.toNat_ofInt, BitVec.toInt_eq_toNat_cond]
  have h := x.toBitVec.isLt
  generalize x.toBitVec.toNat = n at *
  rw [show (1#32).toNat = 1 from rfl, Nat.and_one_is_mod]
  split <;> omega
theorem shr_div {cs : Int} (h : i3 cs) {n : Nat} (hn : n ≤ 5) : (iI cs >>> (iI n &&& 31)).toInt = cs / 2 ^ n := by
  have key : ∀ m : Int32, (iI cs >>> m).toInt = cs / 2 ^ (m.toBitVec.smod 32).toNat := fun m => by
    show (BitVec.sshiftRight' (iI cs).toBitVec (m.toBitVec.smod 32)).toInt = _
    rw [BitVec.toInt_sshiftRight', show (iI cs).toBitVec.toInt = cs from iI_toInt h, Int.shiftRight_eq_div_pow]
    norm_cast
  rcases (show n = 0 ∨ n = 1 ∨ n = 2 ∨ n = 3 ∨ n = 4 ∨ n = 5 by omega) with rfl | rfl | rfl | rfl | rfl | rfl <;> rw [key] <;> rfl
theorem or1 {A c : Bool} (h : ¬ b2i A = 0) : 1 = b2i (A || c) := by cases A <;> cases c <;> simp_all [b2i]
theorem or2 {A c : Bool} (h : b2i A = 0) (h2 : ¬ b2i c = 0) : 1 = b2i (A || c) := by cases A <;> cases c <;> simp_all [b2i]
theorem or3 {A c : Bool} (h : b2i A = 0) (h2 : b2i c = 0) : 0 = b2i (A || c) := by cases A <;> cases c <;> simp_all [b2i]
theorem an1 {A c : Bool} (h : b2i A = 0) : 0 = b2i (A && c) := by cases A <;> cases c <;> simp_all [b2i]
theorem an2 {A c : Bool} (h : ¬ b2i A = 0) (h2 : b2i c = 0) : 0 = b2i (A && c) := by cases A <;> cases c <;> simp_all [b2i]
theorem an3 {A c : Bool} (h : ¬ b2i A = 0) (h2 : ¬ b2i c = 0) : 1 = b2i (A && c) := by cases A <;> cases c <;> simp_all [b2i]
theorem b2i_r3 (b : Bool) : -2147483648 ≤ b2i b ∧ b2i b < 2147483648 := by cases b <;> decide
theorem tv_andL (cs : Int) (t : TT) : tv cs t = (andL t).all (tv cs) := by
  induction t with
  | and a b ha hb => simp only [tv, andL, List.all_append, ← ha, ← hb]
  | _ => simp [andL]
theorem tv_orL (cs : Int) (t : TT) : tv cs t = (orL t).any (tv cs) := by
  induction t with
  | or a b ha hb => simp only [tv, orL, List.any_append, ← ha, ← hb]
  | _ => simp [orL]
theorem cd_tv {t : TT} (h : isT t) : ∃ (v : Int) (xs : List TT), cd t 0 = v :: xs.flatMap (fun x => cd x 0) ∧ (∀ x ∈ xs, isT x) ∧ ((∃ n : Nat, n ≤ 5 ∧ v = n ∧ xs = [] ∧ t = .count n) ∨ (v = 10 ∧ ∃ c, xs = [c] ∧ t = .not c) ∨ (v = 1000 + xs.length ∧ ∀ cs, tv cs t = xs.all (tv cs)) ∨ (v = 2000 + xs.length ∧ ∀ cs, tv cs t = xs.any (tv cs))) := by
  rcases isT_small h with ⟨n, hn, rfl⟩ | ⟨c, hc, rfl⟩ | ⟨a, b, ha, hb, rfl⟩ | ⟨a, b, ha, hb, rfl⟩
  · exact ⟨n, [], rfl, (fun _ h => by cases h), Or.inl ⟨n, hn, rfl, rfl, rfl⟩⟩
  · exact ⟨10, [c], by simp [cd], (fun x hx => by rw [List.mem_singleton.mp hx]; exact hc), Or.inr (Or.inl ⟨rfl, c, rfl, rfl⟩)⟩
  · refine ⟨1000 + (nA (.and a b) : Nat), andL (.and a b), ?_, andL_isT (t := .and a b) ⟨ha, hb⟩, Or.inr (Or.inr (Or.inl ⟨by rw [andL_len], fun cs => tv_andL cs _⟩))⟩
    rw [← cd_andL]
    simp [cd, nA]
  · refine ⟨2000 + (nO (.or a b) : Nat), orL (.or a b), ?_, orL_isT (t := .or a b) ⟨ha, hb⟩, Or.inr (Or.inr (Or.inr ⟨by rw [orL_len], fun cs => tv_orL cs _⟩))⟩
    rw [← cd_orL]
    simp [cd, nO]
theorem getD_mid {v : Int} {A B D : List Int} {j : Nat} (hj : j < B.length) : (v :: (A ++ (B ++ D))).getD (1 + A.length + j) 0 = B.getD j 0 := by
  rw [List.getD_eq_getElem?_getD, List.getD_eq_getElem?_getD, show 1 + A.length + j = (A.length + j) + 1 by omega, List.getElem?_cons_succ, List.getElem?_append_right (by omega), Nat.add_sub_cancel_left, List.getElem?_append_left hj]
set_option maxRecDepth 20000 in
set_option maxHeartbeats 4000000 in
theorem m_isSo {cs : Int} (hcs : i3 cs) : ∀ (N : Nat) {d b ac : Nat} {t : TT} {sf : SF} {sa : SA}, N ≤ d → N ≤ 800 → isT t → (cd t 0).length ≤ N → sf 18 = ac → b + ac + (cd t 0).length ≤ 84000 → (∀ j, j < (cd t 0).length → sa 28 (b + ac + j) = (cd t 0).getD j 0) → MM yX9_isSo cX9_isSo 9 (some .boolean) d [.int (iI b), .int (iI cs)] sf sa (fun r sf' sa' => r = some (.int (iI (b2i (tv cs t)))) ∧ sf' = va_up sf 18 ((ac + (cd t 0).length : Nat) : Int) ∧ sa' = sa) := by
  intro N
  induction N with
  | zero =>
    intro d b ac t sf sa _ _ ht hl
    have := cd_len t ht 0
    omega
  | succ N ihN =>
    intro d b ac t sf sa hd hN ht hl h18 hb hcode
    obtain ⟨v, xs, hcd, hxs, hk⟩ := cd_tv ht
    have hlp := len_pieces hxs
    rw [hcd] at hl hb hcode ⊢
    rw [List.length_cons] at hl hb hcode ⊢
    have h0 : sa 28 (b + ac) = v := by have := hcode 0 (by omega); simpa using this
    rcases hk with ⟨n, hn, hv, hxe, htn⟩ | ⟨hv, c, hxe, htn⟩ | hk
    · subst hxe htn hv
      have e1 : (iI cs >>> (iI n &&& 31)) &&& iI 1 = iI (cs / 2 ^ n % 2) := by rw [i_and1, shr_div hcs hn]
      refine MM.of2 (by decide +kernel) rfl (Nat.le_of_ble_eq_true rfl) (fun L g hL X C => ?_)
      refine C.aload_n dX9_isSo_0 rfl ?_
      refine C.mget hL gf_X9_33 dX9_isSo_1 rfl ?_
      refine C.iload_n dX9_isSo_4 rfl ?_
      refine C.aload_n dX9_isSo_5 rfl ?_
      refine C.mget hL gf_X9_65 dX9_isSo_6 rfl ?_
      refine C.topI (b := (ac : Int)) h18 ?_
      refine C.iaddI dX9_isSo_9 ?_
      refine C.maldk hL (k := b + ac) dX9_isSo_10 (by decide) rfl (by decide) (by omega) (by omega) ?_
      refine C.topI (b := (n : Int)) h0 ?_
      refine C.istore_n dX9_isSo_11 (by decide) rfl ?_
      refine C.aload_n dX9_isSo_12 rfl ?_
      refine C.dup dX9_isSo_13 rfl ?_
      refine C.mget hL gf_X9_65 dX9_isSo_14 rfl ?_
      refine C.topI (b := (ac : Int)) h18 ?_
      refine C.ic dX9_isSo_17 ?_
      refine C.iaddI dX9_isSo_18 ?_
      refine C.mput hL pf_X9_65 dX9_isSo_19 (by decide) rfl ?_
      refine C.iload_n dX9_isSo_22 rfl ?_
      refine C.bi dX9_isSo_23 (by decide) ?_
      refine C.icmp_geI (tgt := 43) dX9_isSo_25 (by decide) (by omega) (by omega) (fun hc25 => absurd hc25 (by omega)) (fun hc25 => ?_)
      refine C.iload_n dX9_isSo_28 rfl ?_
      refine C.iload_n dX9_isSo_29 rfl ?_
      refine C.ishr dX9_isSo_30 ?_
      refine C.ic dX9_isSo_31 ?_
      refine C.iand dX9_isSo_32 ?_
      rw [e1]
      refine C.ic dX9_isSo_33 ?_
      refine C.icmp_neI (tgt := 41) dX9_isSo_34 (by decide) (by omega) (by omega) (fun hc34 => ?_) (fun hc34 => ?_)
      · refine C.ic dX9_isSo_41 ?_
        refine C.retI rfl (by first | rfl | (exact (iI_bool (by first | exact Or.inl rfl | exact Or.inr rfl | assumption)).1)) dX9_isSo_42 (Nat.le_refl _) (Nat.le_refl _) ⟨_, _, ?_, rfl, rfl⟩
        refine ⟨?_, by simp, rfl⟩
        simp only [tv]
        first | (rw [show (cs / 2 ^ n % 2 == 1) = true from by rw [beq_iff_eq]; omega]; rfl) | (rw [show (cs / 2 ^ n % 2 == 1) = false from by rw [beq_eq_false_iff_ne]; omega]; rfl)
      · refine C.ic dX9_isSo_37 ?_
        refine C.goto (tgt := 42) dX9_isSo_38 (by decide) ?_
        refine C.retI rfl (by first | rfl | (exact (iI_bool (by first | exact Or.inl rfl | exact Or.inr rfl | assumption)).1)) dX9_isSo_42 (Nat.le_refl _) (Nat.le_refl _) ⟨_, _, ?_, rfl, rfl⟩
        refine ⟨?_, by simp, rfl⟩
        simp only [tv]
        first | (rw [show (cs / 2 ^ n % 2 == 1) = true from by rw [beq_iff_eq]; omega]; rfl) | (rw [show (cs / 2 ^ n % 2 == 1) = false from by rw [beq_eq_false_iff_ne]; omega]; rfl)
    · subst hxe htn hv
      have hcT : isT c := ht
      simp only [List.flatMap_cons, List.flatMap_nil, List.append_nil] at hl hb hcode ⊢
      have hM := ihN (d := d - 1) (b := b) (ac := ac + 1) (t := c) (sf := va_up sf 18 ((ac : Int) + 1)) (sa := sa) (by omega) (by omega) hcT (by omega) rfl (by omega) (fun j hj => by
        have := hcode (j + 1) (by omega)
        rw [show b + (ac + 1) + j = b + ac + (j + 1) by omega, this]
        simp)
      rw [show ac + 1 + (cd c 0).length = ac + ((cd c 0).length + 1) by omega, up00] at hM
      refine MM.of2 (by decide +kernel) rfl (Nat.le_of_ble_eq_true rfl) (fun L g hL X C => ?_)
      refine C.aload_n dX9_isSo_0 rfl ?_
      refine C.mget hL gf_X9_33 dX9_isSo_1 rfl ?_
      refine C.iload_n dX9_isSo_4 rfl ?_
      refine C.aload_n dX9_isSo_5 rfl ?_
      refine C.mget hL gf_X9_65 dX9_isSo_6 rfl ?_
      refine C.topI (b := (ac : Int)) h18 ?_
      refine C.iaddI dX9_isSo_9 ?_
      refine C.maldk hL (k := b + ac) dX9_isSo_10 (by decide) rfl (by decide) (by omega) (by omega) ?_
      refine C.topI (b := 10) h0 ?_
      refine C.istore_n dX9_isSo_11 (by decide) rfl ?_
      refine C.aload_n dX9_isSo_12 rfl ?_
      refine C.dup dX9_isSo_13 rfl ?_
      refine C.mget hL gf_X9_65 dX9_isSo_14 rfl ?_
      refine C.topI (b := (ac : Int)) h18 ?_
      refine C.ic dX9_isSo_17 ?_
      refine C.iaddI dX9_isSo_18 ?_
      refine C.mput hL pf_X9_65 dX9_isSo_19 (by decide) rfl ?_
      refine C.iload_n dX9_isSo_22 rfl ?_
      refine C.bi dX9_isSo_23 (by decide) ?_
      refine C.icmp_geI (tgt := 43) dX9_isSo_25 (by decide) (by omega) (by omega) (fun hc25 => ?_) (fun hc25 => absurd hc25 (by decide))
      refine C.iload_n dX9_isSo_43 rfl ?_
      refine C.bi dX9_isSo_44 (by decide) ?_
      refine C.icmp_neI (tgt := 64) dX9_isSo_46 (by decide) (by omega) (by omega) (fun hc46 => absurd hc46 (fun h => h rfl)) (fun hc46 => ?_)
      refine C.aload_n dX9_isSo_49 rfl ?_
      refine C.iload_n dX9_isSo_50 rfl ?_
      refine C.iload_n dX9_isSo_51 rfl ?_
      refine C.mcall hL (hM) cw_X9_isSo ml_X9_330 im_X9_isSo sl_X9_isSo dX9_isSo_52 rfl rfl (by omega) (Nat.le_refl _) (Nat.le_refl _) (Nat.le_of_ble_eq_true rfl) rfl (fun r52 sf52 sa52 hR52 => ?_)
      obtain ⟨rfl, hs, ha⟩ := hR52
      rw [hs, ha]
      clear hs ha
      refine C.if_neI (tgt := 62) dX9_isSo_55 (by decide) (b2i_r3 _) (fun hc55 => ?_) (fun hc55 => ?_)
      · refine C.ic dX9_isSo_62 ?_
        refine C.retI rfl (by first | rfl | (exact (iI_bool (by first | exact Or.inl rfl | exact Or.inr rfl | assumption)).1)) dX9_isSo_63 (Nat.le_refl _) (Nat.le_refl _) ⟨_, _, ?_, rfl, rfl⟩
        refine ⟨?_, rfl, rfl⟩
        simp only [tv]
        generalize tv cs c = B at *
        cases B <;> simp_all [b2i]
      · refine C.ic dX9_isSo_58 ?_
        refine C.goto (tgt := 63) dX9_isSo_59 (by decide) ?_
        refine C.retI rfl (by first | rfl | (exact (iI_bool (by first | exact Or.inl rfl | exact Or.inr rfl | assumption)).1)) dX9_isSo_63 (Nat.le_refl _) (Nat.le_refl _) ⟨_, _, ?_, rfl, rfl⟩
        refine ⟨?_, rfl, rfl⟩
        simp only [tv]
        generalize tv cs c = B at *
        cases B <;> simp_all [b2i]
    · have hvr : 1000 ≤ v ∧ v ≤ 3000 := by rcases hk with ⟨h, _⟩ | ⟨h, _⟩ <;> omega
      refine MM.of2 (by decide +kernel) rfl (Nat.le_of_ble_eq_true rfl) (fun L g hL X C => ?_)
      have fin : ∀ v7 v8, X 0 0 L (ov (va_up sf 18 ((ac + ((xs.flatMap (fun x => cd x 0)).length + 1) : Nat) : Int)) sa g) 150 [some (.ref 20), some (.int (iI b)), some (.int (iI cs)), some (.int (iI v)), some (.int (iI xs.length)), some (.int (iI (b2i (xs.any (tv cs))))), some (.int (iI (b2i (xs.all (tv cs))))), v7, v8] [] := by
        intro v7 v8
        have hrA : b2i (xs.any (tv cs)) = 0 ∨ b2i (xs.any (tv cs)) = 1 := b2i_rng _
        have hrB : b2i (xs.all (tv cs)) = 0 ∨ b2i (xs.all (tv cs)) = 1 := b2i_rng _
        rcases hk with ⟨hv, htv⟩ | ⟨hv, htv⟩
        · by_cases hx1 : xs.length < 1000
          · refine C.iload_n dX9_isSo_150 rfl ?_
            refine C.si dX9_isSo_151 (by decide) ?_
            refine C.icmp_ltI (tgt := 162) dX9_isSo_154 (by decide) (by omega) (by omega) (fun hc154 => ?_) (fun hc154 => absurd hc154 (by omega))
            refine C.iload dX9_isSo_162 rfl ?_
            refine C.retI rfl (by first | rfl | (exact (iI_bool (by first | exact Or.inl rfl | exact Or.inr rfl | assumption)).1)) dX9_isSo_164 (Nat.le_refl _) (Nat.le_refl _) ⟨_, _, ?_, rfl, rfl⟩
            exact ⟨by rw [htv], rfl, rfl⟩
          · omega
        · refine C.iload_n dX9_isSo_150 rfl ?_
          refine C.si dX9_isSo_151 (by decide) ?_
          refine C.icmp_ltI (tgt := 162) dX9_isSo_154 (by decide) (by omega) (by omega) (fun hc154 => absurd hc154 (by omega)) (fun hc154 => ?_)
          refine C.iload dX9_isSo_157 rfl ?_
          refine C.goto (tgt := 164) dX9_isSo_159 (by decide) ?_
          refine C.retI rfl (by first | rfl | (exact (iI_bool (by first | exact Or.inl rfl | exact Or.inr rfl | assumption)).1)) dX9_isSo_164 (Nat.le_refl _) (Nat.le_refl _) ⟨_, _, ?_, rfl, rfl⟩
          exact ⟨by rw [htv], rfl, rfl⟩
      have loop : ∀ (ys done : List TT) (sfc : SF), xs = done ++ ys → sfc = va_up sf 18 ((ac + 1 + (done.flatMap (fun x => cd x 0)).length : Nat) : Int) → ∀ v8, X 0 0 L (ov sfc sa g) 95 [some (.ref 20), some (.int (iI b)), some (.int (iI cs)), some (.int (iI v)), some (.int (iI xs.length)), some (.int (iI (b2i (done.any (tv cs))))), some (.int (iI (b2i (done.all (tv cs))))), some (.int (iI done.length)), v8] [] := by
        intro ys
        induction ys with
        | nil =>
          intro done sfc hx hs v8
          rw [List.append_nil] at hx
          subst hx hs
          have := fin (some (.int (iI xs.length))) v8
          rw [show ac + ((xs.flatMap (fun x => cd x 0)).length + 1) = ac + 1 + (xs.flatMap (fun x => cd x 0)).length by omega] at this
          refine C.iload dX9_isSo_95 rfl ?_
          refine C.iload dX9_isSo_97 rfl ?_
          refine C.icmp_geI (tgt := 150) dX9_isSo_99 (by decide) (by omega) (by omega) (fun hc99 => ?_) (fun hc99 => absurd hc99 (by omega))
          exact this
        | cons y ys ih =>
          intro done sfc hx hs v8
          have hfm : xs.flatMap (fun x => cd x 0) = done.flatMap (fun x => cd x 0) ++ (cd y 0 ++ ys.flatMap (fun x => cd x 0)) := by rw [hx, List.flatMap_append, List.flatMap_cons]
          have hxl : xs.length = done.length + (ys.length + 1) := by rw [hx, List.length_append, List.length_cons]
          rw [hfm] at hl hb hcode hlp
          simp only [List.length_append] at hl hb hcode hlp
          have hy : isT y := hxs y (by rw [hx]; exact List.mem_append_right _ List.mem_cons_self)
          have hyl := cd_len y hy 0
          subst hs
          have hM := ihN (d := d - 1) (b := b) (ac := ac + 1 + (done.flatMap (fun x => cd x 0)).length) (t := y) (sf := va_up sf 18 ((ac + 1 + (done.flatMap (fun x => cd x 0)).length : Nat) : Int)) (sa := sa) (by omega) (by omega) hy (by omega) rfl (by omega) (fun j hj => by
            have := hcode (1 + (done.flatMap (fun x => cd x 0)).length + j) (by omega)
            rw [getD_mid hj] at this
            rw [← this]
            congr 1
            omega)
          rw [up00] at hM
          have nx := ih (done ++ [y]) (va_up sf 18 ((ac + 1 + (done.flatMap (fun x => cd x 0)).length + (cd y 0).length : Nat) : Int)) (by rw [hx, List.append_assoc]; rfl) (by rw [List.flatMap_append, List.length_append, List.flatMap_singleton]; congr 2; omega)
          simp only [List.any_append, List.all_append, List.any_cons, List.any_nil, List.all_cons, List.all_nil, Bool.or_false, Bool.and_true, List.length_append, List.length_cons, List.length_nil] at nx
          generalize done.any (tv cs) = A at *
          generalize done.all (tv cs) = B at *
          generalize tv cs y = Cv at *
          refine C.iload dX9_isSo_95 rfl ?_
          refine C.iload dX9_isSo_97 rfl ?_
          refine C.icmp_geI (tgt := 150) dX9_isSo_99 (by decide) (by omega) (by omega) (fun hc99 => absurd hc99 (by omega)) (fun hc99 => ?_)
          refine C.aload_n dX9_isSo_102 rfl ?_
          refine C.iload_n dX9_isSo_103 rfl ?_
          refine C.iload_n dX9_isSo_104 rfl ?_
          refine C.mcall hL (hM) cw_X9_isSo ml_X9_330 im_X9_isSo sl_X9_isSo dX9_isSo_105 rfl rfl (by omega) (Nat.le_refl _) (Nat.le_refl _) (Nat.le_of_ble_eq_true rfl) rfl (fun r105 sf105 sa105 hR105 => ?_)
          obtain ⟨rfl, hs, ha⟩ := hR105
          rw [hs, ha]
          clear hs ha
          refine C.istore dX9_isSo_108 (by decide) rfl ?_
          refine C.iload dX9_isSo_110 rfl ?_
          refine C.if_neI (tgt := 120) dX9_isSo_112 (by decide) (b2i_r3 _) (fun hc112 => ?_) (fun hc112 => ?_)
          · refine C.ic dX9_isSo_120 ?_
            refine C.goto (tgt := 125) dX9_isSo_121 (by decide) ?_
            refine C.topI (b := b2i (A || Cv)) (by first | exact or1 hc112 | exact or2 hc112 hc117 | exact or3 hc112 hc117) ?_
            refine C.istore dX9_isSo_125 (by decide) rfl ?_
            refine C.iload dX9_isSo_127 rfl ?_
            refine C.if_eqI (tgt := 141) dX9_isSo_129 (by decide) (b2i_r3 _) (fun hc129 => ?_) (fun hc129 => ?_)
            · refine C.ic dX9_isSo_141 ?_
              refine C.topI (b := b2i (B && Cv)) (by first | exact an1 hc129 | exact an2 hc129 hc134 | exact an3 hc129 hc134) ?_
              refine C.istore dX9_isSo_142 (by decide) rfl ?_
              refine C.iincI dX9_isSo_144 rfl (by decide) rfl ?_
              refine C.goto (tgt := 95) dX9_isSo_147 (by decide) ?_
              exact nx _
            · refine C.iload dX9_isSo_132 rfl ?_
              refine C.if_eqI (tgt := 141) dX9_isSo_134 (by decide) (b2i_r3 _) (fun hc134 => ?_) (fun hc134 => ?_)
              · refine C.ic dX9_isSo_141 ?_
                refine C.topI (b := b2i (B && Cv)) (by first | exact an1 hc129 | exact an2 hc129 hc134 | exact an3 hc129 hc134) ?_
                refine C.istore dX9_isSo_142 (by decide) rfl ?_
                refine C.iincI dX9_isSo_144 rfl (by decide) rfl ?_
                refine C.goto (tgt := 95) dX9_isSo_147 (by decide) ?_
                exact nx _
              · refine C.ic dX9_isSo_137 ?_
                refine C.goto (tgt := 142) dX9_isSo_138 (by decide) ?_
                refine C.topI (b := b2i (B && Cv)) (by first | exact an1 hc129 | exact an2 hc129 hc134 | exact an3 hc129 hc134) ?_
                refine C.istore dX9_isSo_142 (by decide) rfl ?_
                refine C.iincI dX9_isSo_144 rfl (by decide) rfl ?_
                refine C.goto (tgt := 95) dX9_isSo_147 (by decide) ?_
                exact nx _
          · refine C.iload dX9_isSo_115 rfl ?_
            refine C.if_eqI (tgt := 124) dX9_isSo_117 (by decide) (b2i_r3 _) (fun hc117 => ?_) (fun hc117 => ?_)
            · refine C.ic dX9_isSo_124 ?_
              refine C.topI (b := b2i (A || Cv)) (by first | exact or1 hc112 | exact or2 hc112 hc117 | exact or3 hc112 hc117) ?_
              refine C.istore dX9_isSo_125 (by decide) rfl ?_
              refine C.iload dX9_isSo_127 rfl ?_
              refine C.if_eqI (tgt := 141) dX9_isSo_129 (by decide) (b2i_r3 _) (fun hc129 => ?_) (fun hc129 => ?_)
              · refine C.ic dX9_isSo_141 ?_
                refine C.topI (b := b2i (B && Cv)) (by first | exact an1 hc129 | exact an2 hc129 hc134 | exact an3 hc129 hc134) ?_
                refine C.istore dX9_isSo_142 (by decide) rfl ?_
                refine C.iincI dX9_isSo_144 rfl (by decide) rfl ?_
                refine C.goto (tgt := 95) dX9_isSo_147 (by decide) ?_
                exact nx _
              · refine C.iload dX9_isSo_132 rfl ?_
                refine C.if_eqI (tgt := 141) dX9_isSo_134 (by decide) (b2i_r3 _) (fun hc134 => ?_) (fun hc134 => ?_)
                · refine C.ic dX9_isSo_141 ?_
                  refine C.topI (b := b2i (B && Cv)) (by first | exact an1 hc129 | exact an2 hc129 hc134 | exact an3 hc129 hc134) ?_
                  refine C.istore dX9_isSo_142 (by decide) rfl ?_
                  refine C.iincI dX9_isSo_144 rfl (by decide) rfl ?_
                  refine C.goto (tgt := 95) dX9_isSo_147 (by decide) ?_
                  exact nx _
                · refine C.ic dX9_isSo_137 ?_
                  refine C.goto (tgt := 142) dX9_isSo_138 (by decide) ?_
                  refine C.topI (b := b2i (B && Cv)) (by first | exact an1 hc129 | exact an2 hc129 hc134 | exact an3 hc129 hc134) ?_
                  refine C.istore dX9_isSo_142 (by decide) rfl ?_
                  refine C.iincI dX9_isSo_144 rfl (by decide) rfl ?_
                  refine C.goto (tgt := 95) dX9_isSo_147 (by decide) ?_
                  exact nx _
            · refine C.ic dX9_isSo_120 ?_
              refine C.goto (tgt := 125) dX9_isSo_121 (by decide) ?_
              refine C.topI (b := b2i (A || Cv)) (by first | exact or1 hc112 | exact or2 hc112 hc117 | exact or3 hc112 hc117) ?_
              refine C.istore dX9_isSo_125 (by decide) rfl ?_
              refine C.iload dX9_isSo_127 rfl ?_
              refine C.if_eqI (tgt := 141) dX9_isSo_129 (by decide) (b2i_r3 _) (fun hc129 => ?_) (fun hc129 => ?_)
              · refine C.ic dX9_isSo_141 ?_
                refine C.topI (b := b2i (B && Cv)) (by first | exact an1 hc129 | exact an2 hc129 hc134 | exact an3 hc129 hc134) ?_
                refine C.istore dX9_isSo_142 (by decide) rfl ?_
                refine C.iincI dX9_isSo_144 rfl (by decide) rfl ?_
                refine C.goto (tgt := 95) dX9_isSo_147 (by decide) ?_
                exact nx _
              · refine C.iload dX9_isSo_132 rfl ?_
                refine C.if_eqI (tgt := 141) dX9_isSo_134 (by decide) (b2i_r3 _) (fun hc134 => ?_) (fun hc134 => ?_)
                · refine C.ic dX9_isSo_141 ?_
                  refine C.topI (b := b2i (B && Cv)) (by first | exact an1 hc129 | exact an2 hc129 hc134 | exact an3 hc129 hc134) ?_
                  refine C.istore dX9_isSo_142 (by decide) rfl ?_
                  refine C.iincI dX9_isSo_144 rfl (by decide) rfl ?_
                  refine C.goto (tgt := 95) dX9_isSo_147 (by decide) ?_
                  exact nx _
                · refine C.ic dX9_isSo_137 ?_
                  refine C.goto (tgt := 142) dX9_isSo_138 (by decide) ?_
                  refine C.topI (b := b2i (B && Cv)) (by first | exact an1 hc129 | exact an2 hc129 hc134 | exact an3 hc129 hc134) ?_
                  refine C.istore dX9_isSo_142 (by decide) rfl ?_
                  refine C.iincI dX9_isSo_144 rfl (by decide) rfl ?_
                  refine C.goto (tgt := 95) dX9_isSo_147 (by decide) ?_
                  exact nx _
      have := loop xs [] (va_up sf 18 ((ac : Int) + 1)) rfl (by simp)
      refine C.aload_n dX9_isSo_0 rfl ?_
      refine C.mget hL gf_X9_33 dX9_isSo_1 rfl ?_
      refine C.iload_n dX9_isSo_4 rfl ?_
      refine C.aload_n dX9_isSo_5 rfl ?_
      refine C.mget hL gf_X9_65 dX9_isSo_6 rfl ?_
      refine C.topI (b := (ac : Int)) h18 ?_
      refine C.iaddI dX9_isSo_9 ?_
      refine C.maldk hL (k := b + ac) dX9_isSo_10 (by decide) rfl (by decide) (by omega) (by omega) ?_
      refine C.topI (b := v) h0 ?_
      refine C.istore_n dX9_isSo_11 (by decide) rfl ?_
      refine C.aload_n dX9_isSo_12 rfl ?_
      refine C.dup dX9_isSo_13 rfl ?_
      refine C.mget hL gf_X9_65 dX9_isSo_14 rfl ?_
      refine C.topI (b := (ac : Int)) h18 ?_
      refine C.ic dX9_isSo_17 ?_
      refine C.iaddI dX9_isSo_18 ?_
      refine C.mput hL pf_X9_65 dX9_isSo_19 (by decide) rfl ?_
      refine C.iload_n dX9_isSo_22 rfl ?_
      refine C.bi dX9_isSo_23 (by decide) ?_
      refine C.icmp_geI (tgt := 43) dX9_isSo_25 (by decide) (by omega) (by omega) (fun hc25 => ?_) (fun hc25 => absurd hc25 (by omega))
      refine C.iload_n dX9_isSo_43 rfl ?_
      refine C.bi dX9_isSo_44 (by decide) ?_
      refine C.icmp_neI (tgt := 64) dX9_isSo_46 (by decide) (by omega) (by omega) (fun hc46 => ?_) (fun hc46 => absurd hc46 (by omega))
      refine C.iload_n dX9_isSo_64 rfl ?_
      refine C.si dX9_isSo_65 (by decide) ?_
      refine C.icmp_ltI (tgt := 79) dX9_isSo_68 (by decide) (by omega) (by omega) (fun hc68 => ?_) (fun hc68 => ?_)
      · refine C.iload_n dX9_isSo_79 rfl ?_
        refine C.si dX9_isSo_80 (by decide) ?_
        refine C.isubI dX9_isSo_83 ?_
        refine C.topI (b := (xs.length : Int)) (by rcases hk with ⟨h, _⟩ | ⟨h, _⟩ <;> omega) ?_
        refine C.istore dX9_isSo_84 (by decide) rfl ?_
        refine C.ic dX9_isSo_86 ?_
        refine C.istore dX9_isSo_87 (by decide) rfl ?_
        refine C.ic dX9_isSo_89 ?_
        refine C.istore dX9_isSo_90 (by decide) rfl ?_
        refine C.ic dX9_isSo_92 ?_
        refine C.istore dX9_isSo_93 (by decide) rfl ?_
        exact this _
      · refine C.iload_n dX9_isSo_71 rfl ?_
        refine C.si dX9_isSo_72 (by decide) ?_
        refine C.isubI dX9_isSo_75 ?_
        refine C.goto (tgt := 84) dX9_isSo_76 (by decide) ?_
        refine C.topI (b := (xs.length : Int)) (by rcases hk with ⟨h, _⟩ | ⟨h, _⟩ <;> omega) ?_
        refine C.istore dX9_isSo_84 (by decide) rfl ?_
        refine C.ic dX9_isSo_86 ?_
        refine C.istore dX9_isSo_87 (by decide) rfl ?_
        refine C.ic dX9_isSo_89 ?_
        refine C.istore dX9_isSo_90 (by decide) rfl ?_
        refine C.ic dX9_isSo_92 ?_
        refine C.istore dX9_isSo_93 (by decide) rfl ?_
        exact this _
/-- whether a sentence counts in the cases -/
def twO (cs : Int) : Option TT → Bool
  | none => true
  | some t => tv cs t
def tuO (cs : Int) : Option TT → Bool
  | none => false
  | some t => tv cs t
def cnS (cs : Int) (x : Sen) : Bool := twO cs x.2.2.1 && !tuO cs x.2.2.2
set_option maxRecDepth 20000 in
theorem m_counts {d s : Nat} {x : Sen} {cs : Int} {sf : SF} {sa : SA} (hd : 402 ≤ d) (hs : s < 100) (hcs : i3 cs) (hx : SenAt sa s x) : MM yX9_counts cX9_counts 3 (some .boolean) d [.int (iI s), .int (iI cs)] sf sa (fun r sf' sa' => r = some (.int (iI (b2i (cnS cs x)))) ∧ Gf sf sf' ∧ sa' = sa) := by
  obtain ⟨bd, dy, w, u⟩ := x
  have hw : RowAt sa (2 * s) w := hx.2.2.1
  have hu : RowAt sa (2 * s + 1) u := hx.2.2.2
  refine MM.of2 (by decide +kernel) rfl (Nat.le_of_ble_eq_true rfl) (fun L g hL X C => ?_)
  have st : ∀ (sfc : SF), Gf sf sfc → twO cs w = true → X 0 0 L (ov sfc sa g) 33 [some (.ref 20), some (.int (iI s)), some (.int (iI cs))] [] := by
    intro sfc hg hwt
    cases u with
    | none =>
      have h0 : sa 27 (2 * s + 1) = 0 := hu
      refine C.aload_n dX9_counts_33 rfl ?_
      refine C.ic dX9_counts_34 ?_
      refine C.mput hL pf_X9_65 dX9_counts_35 (by decide) rfl ?_
      refine C.aload_n dX9_counts_38 rfl ?_
      refine C.mget hL gf_X9_29 dX9_counts_39 rfl ?_
      refine C.ic dX9_counts_42 ?_
      refine C.iload_n dX9_counts_43 rfl ?_
      refine C.imulI dX9_counts_44 ?_
      refine C.ic dX9_counts_45 ?_
      refine C.iaddI dX9_counts_46 ?_
      refine C.maldk hL (k := 2 * s + 1) dX9_counts_47 (by decide) rfl (by decide) (by omega) (by omega) ?_
      refine C.topI (b := 0) h0 ?_
      refine C.if_eqI (tgt := 68) dX9_counts_48 (by decide) (by omega) (fun hc48 => ?_) (fun hc48 => absurd hc48 (by decide))
      refine C.ic dX9_counts_68 ?_
      refine C.goto (tgt := 73) dX9_counts_69 (by decide) ?_
      refine C.retI rfl (by first | rfl | (exact (iI_bool (by first | exact Or.inl rfl | exact Or.inr rfl | assumption)).1)) dX9_counts_73 (Nat.le_refl _) (Nat.le_refl _) ⟨_, _, ?_, rfl, rfl⟩
      refine ⟨?_, hg.up (by omega), rfl⟩
      show _ = some (Value.int (iI (b2i (twO cs w && !false))))
      rw [hwt]
      rfl
    | some t =>
      obtain ⟨c1, c2, c3, c4⟩ := hu.code
      have hb0 := cd_len t c3 0
      have hM := m_isSo hcs 400 (d := d - 1) (b := (2 * s + 1) * 420) (ac := 0) (t := t) (sf := va_up sfc 18 0) (sa := sa) (by omega) (by omega) c3 (by omega) rfl (by omega) (fun j hj => by rw [Nat.add_zero]; exact c2 j hj)
      refine C.aload_n dX9_counts_33 rfl ?_
      refine C.ic dX9_counts_34 ?_
      refine C.mput hL pf_X9_65 dX9_counts_35 (by decide) rfl ?_
      refine C.aload_n dX9_counts_38 rfl ?_
      refine C.mget hL gf_X9_29 dX9_counts_39 rfl ?_
      refine C.ic dX9_counts_42 ?_
      refine C.iload_n dX9_counts_43 rfl ?_
      refine C.imulI dX9_counts_44 ?_
      refine C.ic dX9_counts_45 ?_
      refine C.iaddI dX9_counts_46 ?_
      refine C.maldk hL (k := 2 * s + 1) dX9_counts_47 (by decide) rfl (by decide) (by omega) (by omega) ?_
      refine C.topI (b := ((cd t 0).length : Int)) c1 ?_
      refine C.if_eqI (tgt := 68) dX9_counts_48 (by decide) (by omega) (fun hc48 => absurd hc48 (by omega)) (fun hc48 => ?_)
      refine C.aload_n dX9_counts_51 rfl ?_
      refine C.ic dX9_counts_52 ?_
      refine C.iload_n dX9_counts_53 rfl ?_
      refine C.imulI dX9_counts_54 ?_
      refine C.ic dX9_counts_55 ?_
      refine C.iaddI dX9_counts_56 ?_
      refine C.si dX9_counts_57 (by decide) ?_
      refine C.imulI dX9_counts_60 ?_
      refine C.topI (b := (((2 * s + 1) * 420 : Nat) : Int)) (by omega) ?_
      refine C.iload_n dX9_counts_61 rfl ?_
      refine C.mcall hL (hM) cw_X9_isSo ml_X9_330 im_X9_isSo sl_X9_isSo dX9_counts_62 rfl rfl (by omega) (Nat.le_refl _) (Nat.le_refl _) (Nat.le_of_ble_eq_true rfl) rfl (fun r62 sf62 sa62 hR62 => ?_)
      obtain ⟨rfl, hs, ha⟩ := hR62
      rw [hs, ha]
      clear hs ha
      refine C.if_neI (tgt := 72) dX9_counts_65 (by decide) (b2i_r3 _) (fun hc65 => ?_) (fun hc65 => ?_)
      · refine C.ic dX9_counts_72 ?_
        refine C.retI rfl (by first | rfl | (exact (iI_bool (by first | exact Or.inl rfl | exact Or.inr rfl | assumption)).1)) dX9_counts_73 (Nat.le_refl _) (Nat.le_refl _) ⟨_, _, ?_, rfl, rfl⟩
        refine ⟨?_, (hg.up (by omega)).up (by omega), rfl⟩
        show _ = some (Value.int (iI (b2i (twO cs w && !tv cs t))))
        rw [hwt]
        generalize tv cs t = B at *
        cases B <;> simp_all [b2i]
      · refine C.ic dX9_counts_68 ?_
        refine C.goto (tgt := 73) dX9_counts_69 (by decide) ?_
        refine C.retI rfl (by first | rfl | (exact (iI_bool (by first | exact Or.inl rfl | exact Or.inr rfl | assumption)).1)) dX9_counts_73 (Nat.le_refl _) (Nat.le_refl _) ⟨_, _, ?_, rfl, rfl⟩
        refine ⟨?_, (hg.up (by omega)).up (by omega), rfl⟩
        show _ = some (Value.int (iI (b2i (twO cs w && !tv cs t))))
        rw [hwt]
        generalize tv cs t = B at *
        cases B <;> simp_all [b2i]
  cases w with
  | none =>
    have h0 : sa 27 (2 * s) = 0 := hw
    refine C.aload_n dX9_counts_0 rfl ?_
    refine C.ic dX9_counts_1 ?_
    refine C.mput hL pf_X9_65 dX9_counts_2 (by decide) rfl ?_
    refine C.aload_n dX9_counts_5 rfl ?_
    refine C.mget hL gf_X9_29 dX9_counts_6 rfl ?_
    refine C.ic dX9_counts_9 ?_
    refine C.iload_n dX9_counts_10 rfl ?_
    refine C.imulI dX9_counts_11 ?_
    refine C.maldk hL (k := 2 * s) dX9_counts_12 (by decide) rfl (by decide) (by omega) (by omega) ?_
    refine C.topI (b := 0) h0 ?_
    refine C.if_leI (tgt := 33) dX9_counts_13 (by decide) (by omega) (fun hc13 => ?_) (fun hc13 => absurd hc13 (by decide))
    exact st _ (Gf.rf.up (by omega)) rfl
  | some t =>
    obtain ⟨c1, c2, c3, c4⟩ := hw.code
    have hb0 := cd_len t c3 0
    have hM := m_isSo hcs 400 (d := d - 1) (b := 2 * s * 420) (ac := 0) (t := t) (sf := va_up sf 18 0) (sa := sa) (by omega) (by omega) c3 (by omega) rfl (by omega) (fun j hj => by rw [Nat.add_zero]; exact c2 j hj)
    cases htv : tv cs t with
    | true =>
      rw [htv] at hM
      refine C.aload_n dX9_counts_0 rfl ?_
      refine C.ic dX9_counts_1 ?_
      refine C.mput hL pf_X9_65 dX9_counts_2 (by decide) rfl ?_
      refine C.aload_n dX9_counts_5 rfl ?_
      refine C.mget hL gf_X9_29 dX9_counts_6 rfl ?_
      refine C.ic dX9_counts_9 ?_
      refine C.iload_n dX9_counts_10 rfl ?_
      refine C.imulI dX9_counts_11 ?_
      refine C.maldk hL (k := 2 * s) dX9_counts_12 (by decide) rfl (by decide) (by omega) (by omega) ?_
      refine C.topI (b := ((cd t 0).length : Int)) c1 ?_
      refine C.if_leI (tgt := 33) dX9_counts_13 (by decide) (by omega) (fun hc13 => absurd hc13 (by omega)) (fun hc13 => ?_)
      refine C.aload_n dX9_counts_16 rfl ?_
      refine C.ic dX9_counts_17 ?_
      refine C.iload_n dX9_counts_18 rfl ?_
      refine C.imulI dX9_counts_19 ?_
      refine C.si dX9_counts_20 (by decide) ?_
      refine C.imulI dX9_counts_23 ?_
      refine C.topI (b := ((2 * s * 420 : Nat) : Int)) (by omega) ?_
      refine C.iload_n dX9_counts_24 rfl ?_
      refine C.mcall hL (hM) cw_X9_isSo ml_X9_330 im_X9_isSo sl_X9_isSo dX9_counts_25 rfl rfl (by omega) (Nat.le_refl _) (Nat.le_refl _) (Nat.le_of_ble_eq_true rfl) rfl (fun r25 sf25 sa25 hR25 => ?_)
      obtain ⟨rfl, hs, ha⟩ := hR25
      rw [hs, ha]
      clear hs ha
      refine C.if_neI (tgt := 33) dX9_counts_28 (by decide) (by decide) (fun hc28 => ?_) (fun hc28 => absurd hc28 (by decide))
      exact st _ ((Gf.rf.up (by omega)).up (by omega)) htv
    | false =>
      rw [htv] at hM
      refine C.aload_n dX9_counts_0 rfl ?_
      refine C.ic dX9_counts_1 ?_
      refine C.mput hL pf_X9_65 dX9_counts_2 (by decide) rfl ?_
      refine C.aload_n dX9_counts_5 rfl ?_
      refine C.mget hL gf_X9_29 dX9_counts_6 rfl ?_
      refine C.ic dX9_counts_9 ?_
      refine C.iload_n dX9_counts_10 rfl ?_
      refine C.imulI dX9_counts_11 ?_
      refine C.maldk hL (k := 2 * s) dX9_counts_12 (by decide) rfl (by decide) (by omega) (by omega) ?_
      refine C.topI (b := ((cd t 0).length : Int)) c1 ?_
      refine C.if_leI (tgt := 33) dX9_counts_13 (by decide) (by omega) (fun hc13 => absurd hc13 (by omega)) (fun hc13 => ?_)
      refine C.aload_n dX9_counts_16 rfl ?_
      refine C.ic dX9_counts_17 ?_
      refine C.iload_n dX9_counts_18 rfl ?_
      refine C.imulI dX9_counts_19 ?_
      refine C.si dX9_counts_20 (by decide) ?_
      refine C.imulI dX9_counts_23 ?_
      refine C.topI (b := ((2 * s * 420 : Nat) : Int)) (by omega) ?_
      refine C.iload_n dX9_counts_24 rfl ?_
      refine C.mcall hL (hM) cw_X9_isSo ml_X9_330 im_X9_isSo sl_X9_isSo dX9_counts_25 rfl rfl (by omega) (Nat.le_refl _) (Nat.le_refl _) (Nat.le_of_ble_eq_true rfl) rfl (fun r25 sf25 sa25 hR25 => ?_)
      obtain ⟨rfl, hs, ha⟩ := hR25
      rw [hs, ha]
      clear hs ha
      refine C.if_neI (tgt := 33) dX9_counts_28 (by decide) (by decide) (fun hc28 => absurd hc28 (by decide)) (fun hc28 => ?_)
      refine C.ic dX9_counts_31 ?_
      refine C.retI rfl (by first | rfl | (exact (iI_bool (by first | exact Or.inl rfl | exact Or.inr rfl | assumption)).1)) dX9_counts_32 (Nat.le_refl _) (Nat.le_refl _) ⟨_, _, ?_, rfl, rfl⟩
      refine ⟨?_, (Gf.rf.up (by omega)).up (by omega), rfl⟩
      show _ = some (Value.int (iI (b2i (tv cs t && !tuO cs u))))
      rw [htv]
      rfl
