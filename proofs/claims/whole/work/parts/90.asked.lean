/-! what a letter asks for -/
/-- the cases in which an act is asked for as a sentence asks -/
def csA (ys : List Sen) (y : Sen) (a : Int) : Int64 := ys.foldl (fun z s => if aLk s y && hA s a then z ||| trS s else z) 0
theorem csA_bit {ys : List Sen} {y : Sen} {a : Int} (hok : ∀ s ∈ ys, tOk s.2.2.1 ∧ tOk s.2.2.2) {j : Nat} (hj : j < 64) : (csA ys y a).toBitVec.getLsbD j = ys.any (akP (j : Int) y.1.2.1 y.1.2.2.1 y.2.1 a) := by
  have key : ∀ (ys : List Sen) (z : Int64), (∀ s ∈ ys, tOk s.2.2.1 ∧ tOk s.2.2.2) → (ys.foldl (fun z s => if aLk s y && hA s a then z ||| trS s else z) z).toBitVec.getLsbD j = (z.toBitVec.getLsbD j || ys.any (akP (j : Int) y.1.2.1 y.1.2.2.1 y.2.1 a)) := by
    intro ys
    induction ys with
    | nil => intro z _; simp
    | cons s ys ih =>
      intro z h
      rw [List.foldl_cons, ih _ (fun s hs => h s (List.mem_cons_of_mem _ hs)), List.any_cons]
      have hs := h s List.mem_cons_self
      have hb := trS_bit hs.1 hs.2 hj
      have hk : akP (j : Int) y.1.2.1 y.1.2.2.1 y.2.1 a s = (aLk s y && hA s a && cnS (j : Int) s) := by
        unfold akP aLk
        rw [Bool.and_assoc]
      rw [hk]
      cases aLk s y && hA s a with
      | false => simp
      | true => simp [hb, Bool.or_assoc]
  have := key ys 0 hok
  rw [show (0 : Int64).toBitVec.getLsbD j = false from by show (0#64).getLsbD j = false; simp, Bool.false_or] at this
  exact this
/-- all that xs ask for as x asks, ys ask for too -/
def wiA (xs ys : List Sen) (x : Sen) (a : Int) : Prop := csA xs x a &&& (csA ys x a ^^^ (-1)) = 0
theorem wiA_iff {xs ys : List Sen} {x : Sen} {a : Int} (h1 : ∀ s ∈ xs, tOk s.2.2.1 ∧ tOk s.2.2.2) (h2 : ∀ s ∈ ys, tOk s.2.2.1 ∧ tOk s.2.2.2) : wiA xs ys x a ↔ ∀ j : Nat, j < 64 → xs.any (akP (j : Int) x.1.2.1 x.1.2.2.1 x.2.1 a) = true → ys.any (akP (j : Int) x.1.2.1 x.1.2.2.1 x.2.1 a) = true := by
  have hm : (-1 : Int64).toBitVec = BitVec.allOnes 64 := by decide
  have hbit : ∀ j : Nat, j < 64 → (csA xs x a &&& (csA ys x a ^^^ (-1))).toBitVec.getLsbD j = (xs.any (akP (j : Int) x.1.2.1 x.1.2.2.1 x.2.1 a) && !ys.any (akP (j : Int) x.1.2.1 x.1.2.2.1 x.2.1 a)) := fun j hj => by
    rw [Int64.toBitVec_and, BitVec.getLsbD_and, Int64.toBitVec_xor, BitVec.getLsbD_xor, csA_bit h1 hj, csA_bit h2 hj, hm, BitVec.getLsbD_allOnes, decide_eq_true hj, Bool.xor_true]
  unfold wiA
  constructor
  · intro h j hj hx
    have := hbit j hj
    rw [h, hx, Bool.true_and, show (0 : Int64).toBitVec.getLsbD j = false from by show (0#64).getLsbD j = false; simp] at this
    simpa using this.symm
  · intro h
    apply Int64.toBitVec_inj.mp
    apply BitVec.eq_of_getLsbD_eq
    intro j hj
    rw [hbit j hj]
    rw [show (0 : Int64).toBitVec.getLsbD j = false from by show (0#64).getLsbD j = false; simp]
    cases hx : xs.any (akP (j : Int) x.1.2.1 x.1.2.2.1 x.2.1 a) with
    | false => rfl
    | true => rw [h j hj hx]; rfl
theorem wiN_iff {xs ys : List Sen} (h1 : ∀ s ∈ xs, tOk s.2.2.1 ∧ tOk s.2.2.2) (h2 : ∀ s ∈ ys, tOk s.2.2.1 ∧ tOk s.2.2.2) : (∀ x ∈ xs, ∀ a ∈ x.1.1, wiA xs ys x a) ↔ wiN xs ys := by
  constructor
  · intro h c hc x hx hcn a ha
    refine (wiA_iff h1 h2).mp (h x hx a ha) c hc (List.any_eq_true.mpr ⟨x, hx, ?_⟩)
    unfold akP hA
    rw [decide_eq_true ⟨rfl, rfl, rfl⟩, hcn, List.any_eq_true.mpr ⟨a, ha, by simp⟩]
    rfl
  · intro h x hx a ha
    refine (wiA_iff h1 h2).mpr (fun j hj hq => ?_)
    obtain ⟨s, hs, hp⟩ := List.any_eq_true.mp hq
    unfold akP at hp
    rw [Bool.and_eq_true, Bool.and_eq_true, decide_eq_true_eq] at hp
    obtain ⟨⟨e1, e2, e3⟩, h3, h4⟩ := hp
    unfold hA at h3
    obtain ⟨v, hv, hva⟩ := List.any_eq_true.mp h3
    have hva2 : v = a := of_decide_eq_true hva
    subst hva2
    have := h j hj s hs h4 v hv
    rw [e1, e2, e3] at this
    exact this
theorem lg0 (z : Int64) : ∃ c : Int, lg_cmp z 0 = iI c ∧ (c = 0 ↔ z = 0) ∧ -1 ≤ c ∧ c ≤ 1 := by
  unfold lg_cmp
  by_cases h1 : z > 0
  · refine ⟨1, by rw [if_pos h1]; rfl, ⟨fun h => absurd h (by decide), fun h => ?_⟩, by decide, by decide⟩
    rw [h] at h1
    exact absurd h1 (by decide)
  · rw [if_neg h1]
    by_cases h2 : z = 0
    · exact ⟨0, by rw [if_pos h2]; rfl, ⟨fun _ => h2, fun _ => rfl⟩, by decide, by decide⟩
    · exact ⟨-1, by rw [if_neg h2]; rfl, ⟨fun h => absurd h (by decide), fun h => absurd h h2⟩, by decide, by decide⟩
section ASKED
variable {d lt e : Nat} {L : List Nat} {f : Nat → AC} {ps : List (Nat × Sen)}
theorem LtAt.tOk (h : LtAt L f lt e ps) : ∀ s ∈ ps.map (fun p => p.2), tOk s.2.2.1 ∧ tOk s.2.2.2 := fun s hs => by
  obtain ⟨p, hp, rfl⟩ := List.mem_map.mp hs
  exact (h.2.2 p hp).a29.1.tOk
theorem t_modesAsked {wh ac cs : Int} (hd : 4 ≤ d) (i1 : i3 wh) (i2 : i3 ac) (i4 : i3 cs) (h : LtAt L f lt e ps) (hl : ps.length ≤ 24) : AM yX1_modesAsked cX1_modesAsked 7 (some .int) d 0 0 [.ref lt, .int (iI wh), .int (iI ac), .int (iI cs)] L f (SP (some (.int (iI ((ps.map (fun p => p.2)).foldl (akS wh ac cs) 0)))) L f) := by
  have M0 := lt_size (d := d - 1) h
  obtain ⟨-, hlt, hflt⟩ := h.1
  obtain ⟨cap, hls⟩ := h.2.1
  obtain ⟨hkL, -, ⟨m, n, hfk⟩, -⟩ := hls.obj
  refine AM.of (by decide +kernel) (by simp [Value.category]) (Nat.le_of_ble_eq_true rfl) false (fun h => by cases h) (fun X C => ?_)
  have loop : ∀ (n i : Nat), i + n = ps.length → ∀ v6, X 0 0 L f 6 [some (.ref lt), some (.int (iI wh)), some (.int (iI ac)), some (.int (iI cs)), some (.int (iI (((ps.map (fun p => p.2)).take i).foldl (akS wh ac cs) 0))), some (.int (iI i)), v6] [] := by
    intro n
    induction n with
    | zero =>
      intro i hi v6
      rw [List.take_of_length_le (by rw [List.length_map]; omega)]
      refine C.iload dX1_modesAsked_6 rfl ?_
      refine C.aload_n dX1_modesAsked_8 rfl ?_
      refine C.getf gf_X1_12 dX1_modesAsked_9 hlt hflt rfl ?_
      refine C.callV (M0) cw_Jx4a65c_size_8abf5 ml_X1_18 im_Jx4a65c_size_8abf5 sl_Jx4a65c_size_8abf5 dX1_modesAsked_12 hkL hfk rfl rfl (by omega) (Nat.le_refl _) (Nat.le_refl _) (Nat.le_of_ble_eq_true rfl) rfl (fun r12 L12 f12 hR12 => ?_)
      obtain ⟨rfl, hL9, hf9⟩ := hR12
      rw [hL9, hf9]
      clear hL9 hf9
      refine C.icmp_geI (tgt := 55) dX1_modesAsked_15 (by decide) (by omega) (by omega) (fun hc15 => ?_) (fun hc15 => absurd hc15 (by omega))
      refine C.iload dX1_modesAsked_55 rfl ?_
      refine C.retI rfl (by first | rfl | (exact (iI_bool (by first | exact Or.inl rfl | exact Or.inr rfl | assumption)).1)) dX1_modesAsked_57 (Nat.le_refl _) (Nat.le_refl _) ⟨rfl, rfl, rfl⟩
      skip
    | succ n ih =>
      intro i hi v6
      have hpi : ps[i]? = some (ps[i]'(by omega)) := List.getElem?_eq_getElem _
      generalize ps[i]'(by omega) = p at hpi
      have M1 := t_at (d := d - 1) (by omega) h hpi
      obtain ⟨hS, hx⟩ := (h.2.2 p (List.mem_of_getElem? hpi)).a29
      have M2 := s_asks (d := d - 1) (by omega) i1 i2 i4 hS hx
      obtain ⟨⟨hpL, -⟩, e0, w0, u0, hfp, -⟩ := hS
      have nx := ih (i + 1) (by omega)
      rw [List.take_add_one, List.getElem?_map, hpi, List.foldl_append] at nx
      change ∀ v6, X 0 0 L f 6 [some (.ref lt), some (.int (iI wh)), some (.int (iI ac)), some (.int (iI cs)), some (.int (iI (akS wh ac cs (((ps.map (fun p => p.2)).take i).foldl (akS wh ac cs) 0) p.2))), some (.int (iI ((i : Int) + 1))), v6] [] at nx
      generalize ((ps.map (fun p => p.2)).take i).foldl (akS wh ac cs) 0 = acc at *
      refine C.iload dX1_modesAsked_6 rfl ?_
      refine C.aload_n dX1_modesAsked_8 rfl ?_
      refine C.getf gf_X1_12 dX1_modesAsked_9 hlt hflt rfl ?_
      refine C.callV (M0) cw_Jx4a65c_size_8abf5 ml_X1_18 im_Jx4a65c_size_8abf5 sl_Jx4a65c_size_8abf5 dX1_modesAsked_12 hkL hfk rfl rfl (by omega) (Nat.le_refl _) (Nat.le_refl _) (Nat.le_of_ble_eq_true rfl) rfl (fun r12 L12 f12 hR12 => ?_)
      obtain ⟨rfl, hL9, hf9⟩ := hR12
      rw [hL9, hf9]
      clear hL9 hf9
      refine C.icmp_geI (tgt := 55) dX1_modesAsked_15 (by decide) (by omega) (by omega) (fun hc15 => absurd hc15 (by omega)) (fun hc15 => ?_)
      refine C.aload_n dX1_modesAsked_18 rfl ?_
      refine C.iload dX1_modesAsked_19 rfl ?_
      refine C.callV (M1) cw_X1_at ml_X1_36 im_X1_at sl_X1_at dX1_modesAsked_21 hlt hflt rfl rfl (by omega) (Nat.le_refl _) (Nat.le_refl _) (Nat.le_of_ble_eq_true rfl) rfl (fun r21 L21 f21 hR21 => ?_)
      obtain ⟨rfl, hL9, hf9⟩ := hR21
      rw [hL9, hf9]
      clear hL9 hf9
      refine C.astore dX1_modesAsked_24 (by decide) rfl ?_
      refine C.aload dX1_modesAsked_26 rfl ?_
      refine C.iload_n dX1_modesAsked_28 rfl ?_
      refine C.iload_n dX1_modesAsked_29 rfl ?_
      refine C.iload_n dX1_modesAsked_30 rfl ?_
      refine C.callV (M2) cw_X3_asks ml_X1_115 im_X3_asks sl_X3_asks dX1_modesAsked_31 hpL hfp rfl rfl (by omega) (Nat.le_refl _) (Nat.le_refl _) (Nat.le_of_ble_eq_true rfl) rfl (fun r31 L31 f31 hR31 => ?_)
      obtain ⟨rfl, hL9, hf9⟩ := hR31
      rw [hL9, hf9]
      clear hL9 hf9
      refine C.if_eqI (tgt := 49) dX1_modesAsked_34 (by decide) (b2i_r3 _) (fun hc34 => ?_) (fun hc34 => ?_)
      · refine C.iincI dX1_modesAsked_49 rfl (by decide) rfl ?_
        refine C.goto (tgt := 6) dX1_modesAsked_52 (by decide) ?_
        first | (rw [show akS wh ac cs acc p.2 = orv acc p.2.1.2.2.1 from by unfold akS; rw [b2i_t hc34]; rfl] at nx; exact nx _) | (rw [show akS wh ac cs acc p.2 = acc from by unfold akS; rw [b2i_f hc34]; rfl] at nx; exact nx _)
      · refine C.iload dX1_modesAsked_37 rfl ?_
        refine C.ic dX1_modesAsked_39 ?_
        refine C.aload dX1_modesAsked_40 rfl ?_
        refine C.getf gf_X1_119 dX1_modesAsked_42 hpL hfp rfl ?_
        refine C.ishl dX1_modesAsked_45 ?_
        refine C.ior dX1_modesAsked_46 ?_
        rw [orv_iI]
        refine C.istore dX1_modesAsked_47 (by decide) rfl ?_
        refine C.iincI dX1_modesAsked_49 rfl (by decide) rfl ?_
        refine C.goto (tgt := 6) dX1_modesAsked_52 (by decide) ?_
        first | (rw [show akS wh ac cs acc p.2 = orv acc p.2.1.2.2.1 from by unfold akS; rw [b2i_t hc34]; rfl] at nx; exact nx _) | (rw [show akS wh ac cs acc p.2 = acc from by unfold akS; rw [b2i_f hc34]; rfl] at nx; exact nx _)
  refine C.ic dX1_modesAsked_0 ?_
  refine C.istore dX1_modesAsked_1 (by decide) rfl ?_
  refine C.ic dX1_modesAsked_3 ?_
  refine C.istore dX1_modesAsked_4 (by decide) rfl ?_
  exact loop ps.length 0 (by omega) _
theorem t_leastDays {wh ac cs : Int} (hd : 4 ≤ d) (i1 : i3 wh) (i2 : i3 ac) (i4 : i3 cs) (h : LtAt L f lt e ps) (hl : ps.length ≤ 24) : AM yX1_leastDays cX1_leastDays 7 (some .int) d 0 0 [.ref lt, .int (iI wh), .int (iI ac), .int (iI cs)] L f (SP (some (.int (iI ((ps.map (fun p => p.2)).foldl (dyS wh ac cs) (-1))))) L f) := by
  have M0 := lt_size (d := d - 1) h
  obtain ⟨-, hlt, hflt⟩ := h.1
  obtain ⟨cap, hls⟩ := h.2.1
  obtain ⟨hkL, -, ⟨m, n, hfk⟩, -⟩ := hls.obj
  refine AM.of (by decide +kernel) (by simp [Value.category]) (Nat.le_of_ble_eq_true rfl) false (fun h => by cases h) (fun X C => ?_)
  have loop : ∀ (n i : Nat), i + n = ps.length → (-1 ≤ ((ps.map (fun p => p.2)).take i).foldl (dyS wh ac cs) (-1) ∧ ((ps.map (fun p => p.2)).take i).foldl (dyS wh ac cs) (-1) ≤ 365) → ∀ v6, X 0 0 L f 6 [some (.ref lt), some (.int (iI wh)), some (.int (iI ac)), some (.int (iI cs)), some (.int (iI (((ps.map (fun p => p.2)).take i).foldl (dyS wh ac cs) (-1)))), some (.int (iI i)), v6] [] := by
    intro n
    induction n with
    | zero =>
      intro i hi _ v6
      rw [List.take_of_length_le (by rw [List.length_map]; omega)]
      refine C.iload dX1_leastDays_6 rfl ?_
      refine C.aload_n dX1_leastDays_8 rfl ?_
      refine C.getf gf_X1_12 dX1_leastDays_9 hlt hflt rfl ?_
      refine C.callV (M0) cw_Jx4a65c_size_8abf5 ml_X1_18 im_Jx4a65c_size_8abf5 sl_Jx4a65c_size_8abf5 dX1_leastDays_12 hkL hfk rfl rfl (by omega) (Nat.le_refl _) (Nat.le_refl _) (Nat.le_of_ble_eq_true rfl) rfl (fun r12 L12 f12 hR12 => ?_)
      obtain ⟨rfl, hL9, hf9⟩ := hR12
      rw [hL9, hf9]
      clear hL9 hf9
      refine C.icmp_geI (tgt := 86) dX1_leastDays_15 (by decide) (by omega) (by omega) (fun hc15 => ?_) (fun hc15 => absurd hc15 (by omega))
      refine C.iload dX1_leastDays_86 rfl ?_
      refine C.retI rfl (by first | rfl | (exact (iI_bool (by first | exact Or.inl rfl | exact Or.inr rfl | assumption)).1)) dX1_leastDays_88 (Nat.le_refl _) (Nat.le_refl _) ⟨rfl, rfl, rfl⟩
      skip
    | succ n ih =>
      intro i hi hr v6
      have hpi : ps[i]? = some (ps[i]'(by omega)) := List.getElem?_eq_getElem _
      generalize ps[i]'(by omega) = p at hpi
      have M1 := t_at (d := d - 1) (by omega) h hpi
      obtain ⟨hS, hx⟩ := (h.2.2 p (List.mem_of_getElem? hpi)).a29
      have M2 := s_asks (d := d - 1) (by omega) i1 i2 i4 hS hx
      obtain ⟨⟨hpL, -⟩, e0, w0, u0, hfp, -⟩ := hS
      obtain ⟨⟨-, a1, a2, a3, -⟩, a4⟩ := hx
      have nx := ih (i + 1) (by omega)
      rw [List.take_add_one, List.getElem?_map, hpi, List.foldl_append] at nx
      change (-1 ≤ dyS wh ac cs (((ps.map (fun p => p.2)).take i).foldl (dyS wh ac cs) (-1)) p.2 ∧ dyS wh ac cs (((ps.map (fun p => p.2)).take i).foldl (dyS wh ac cs) (-1)) p.2 ≤ 365) → ∀ v6, X 0 0 L f 6 [some (.ref lt), some (.int (iI wh)), some (.int (iI ac)), some (.int (iI cs)), some (.int (iI (dyS wh ac cs (((ps.map (fun p => p.2)).take i).foldl (dyS wh ac cs) (-1)) p.2))), some (.int (iI ((i : Int) + 1))), v6] [] at nx
      generalize ((ps.map (fun p => p.2)).take i).foldl (dyS wh ac cs) (-1) = acc at *
      have hQ : dyQ wh ac cs p.2 = (decide (p.2.1.2.2.1 = 0 ∧ ¬ p.2.2.1 < 0) && akQ wh ac cs p.2) := by
        unfold dyQ akQ
        rw [show decide (p.2.1.2.1 = wh ∧ p.2.1.2.2.1 = 0 ∧ ¬ p.2.2.1 < 0) = (decide (p.2.1.2.2.1 = 0 ∧ ¬ p.2.2.1 < 0) && decide (p.2.1.2.1 = wh)) from by
          rw [← Bool.decide_and]
          exact decide_eq_decide.mpr ⟨fun q => ⟨⟨q.2.1, q.2.2⟩, q.1⟩, fun q => ⟨q.2, q.1.1, q.1.2⟩⟩, Bool.and_assoc]
      have no : dyQ wh ac cs p.2 = false → dyS wh ac cs acc p.2 = acc := fun h => by unfold dyS; rw [h]; rfl
      have yes : dyQ wh ac cs p.2 = true → dyS wh ac cs acc p.2 = (if acc < 0 then p.2.2.1 else if p.2.2.1 < acc then p.2.2.1 else acc) := fun h => by unfold dyS; rw [h]; rfl
      replace nx : ∀ v6, X 0 0 L f 6 [some (.ref lt), some (.int (iI wh)), some (.int (iI ac)), some (.int (iI cs)), some (.int (iI (dyS wh ac cs acc p.2))), some (.int (iI ((i : Int) + 1))), v6] [] := nx (by
        unfold dyS
        repeat' split
        all_goals omega)
      refine C.iload dX1_leastDays_6 rfl ?_
      refine C.aload_n dX1_leastDays_8 rfl ?_
      refine C.getf gf_X1_12 dX1_leastDays_9 hlt hflt rfl ?_
      refine C.callV (M0) cw_Jx4a65c_size_8abf5 ml_X1_18 im_Jx4a65c_size_8abf5 sl_Jx4a65c_size_8abf5 dX1_leastDays_12 hkL hfk rfl rfl (by omega) (Nat.le_refl _) (Nat.le_refl _) (Nat.le_of_ble_eq_true rfl) rfl (fun r12 L12 f12 hR12 => ?_)
      obtain ⟨rfl, hL9, hf9⟩ := hR12
      rw [hL9, hf9]
      clear hL9 hf9
      refine C.icmp_geI (tgt := 86) dX1_leastDays_15 (by decide) (by omega) (by omega) (fun hc15 => absurd hc15 (by omega)) (fun hc15 => ?_)
      refine C.aload_n dX1_leastDays_18 rfl ?_
      refine C.iload dX1_leastDays_19 rfl ?_
      refine C.callV (M1) cw_X1_at ml_X1_36 im_X1_at sl_X1_at dX1_leastDays_21 hlt hflt rfl rfl (by omega) (Nat.le_refl _) (Nat.le_refl _) (Nat.le_of_ble_eq_true rfl) rfl (fun r21 L21 f21 hR21 => ?_)
      obtain ⟨rfl, hL9, hf9⟩ := hR21
      rw [hL9, hf9]
      clear hL9 hf9
      refine C.astore dX1_leastDays_24 (by decide) rfl ?_
      refine C.aload dX1_leastDays_26 rfl ?_
      refine C.getf gf_X1_119 dX1_leastDays_28 hpL hfp rfl ?_
      refine C.if_neI (tgt := 80) dX1_leastDays_31 (by decide) (by omega) (fun hc31 => ?_) (fun hc31 => ?_)
      · refine C.iincI dX1_leastDays_80 rfl (by decide) rfl ?_
        refine C.goto (tgt := 6) dX1_leastDays_83 (by decide) ?_
        first | exact nx _ | (rw [no (by rw [hQ, b2i_f hc51, Bool.and_false])] at nx; exact nx _) | (rw [no (by rw [hQ, decide_eq_false (fun q => by omega), Bool.false_and])] at nx; exact nx _)
      · refine C.aload dX1_leastDays_34 rfl ?_
        refine C.getf gf_X1_123 dX1_leastDays_36 hpL hfp rfl ?_
        refine C.ic dX1_leastDays_39 ?_
        refine C.icmp_eqI (tgt := 80) dX1_leastDays_40 (by decide) (by omega) (by omega) (fun hc40 => ?_) (fun hc40 => ?_)
        · refine C.iincI dX1_leastDays_80 rfl (by decide) rfl ?_
          refine C.goto (tgt := 6) dX1_leastDays_83 (by decide) ?_
          first | exact nx _ | (rw [no (by rw [hQ, b2i_f hc51, Bool.and_false])] at nx; exact nx _) | (rw [no (by rw [hQ, decide_eq_false (fun q => by omega), Bool.false_and])] at nx; exact nx _)
        · refine C.aload dX1_leastDays_43 rfl ?_
          refine C.iload_n dX1_leastDays_45 rfl ?_
          refine C.iload_n dX1_leastDays_46 rfl ?_
          refine C.iload_n dX1_leastDays_47 rfl ?_
          refine C.callV (M2) cw_X3_asks ml_X1_115 im_X3_asks sl_X3_asks dX1_leastDays_48 hpL hfp rfl rfl (by omega) (Nat.le_refl _) (Nat.le_refl _) (Nat.le_of_ble_eq_true rfl) rfl (fun r48 L48 f48 hR48 => ?_)
          obtain ⟨rfl, hL9, hf9⟩ := hR48
          rw [hL9, hf9]
          clear hL9 hf9
          refine C.if_eqI (tgt := 80) dX1_leastDays_51 (by decide) (b2i_r3 _) (fun hc51 => ?_) (fun hc51 => ?_)
          · refine C.iincI dX1_leastDays_80 rfl (by decide) rfl ?_
            refine C.goto (tgt := 6) dX1_leastDays_83 (by decide) ?_
            first | exact nx _ | (rw [no (by rw [hQ, b2i_f hc51, Bool.and_false])] at nx; exact nx _) | (rw [no (by rw [hQ, decide_eq_false (fun q => by omega), Bool.false_and])] at nx; exact nx _)
          · refine C.iload dX1_leastDays_54 rfl ?_
            refine C.ic dX1_leastDays_56 ?_
            refine C.icmp_neI (tgt := 68) dX1_leastDays_57 (by decide) (by omega) (by omega) (fun hc57 => ?_) (fun hc57 => ?_)
            · refine C.iload dX1_leastDays_68 rfl ?_
              refine C.aload dX1_leastDays_70 rfl ?_
              refine C.getf gf_X1_123 dX1_leastDays_72 hpL hfp rfl ?_
              refine C.mmin (om_wsL_law0_r47 _ (List.mem_of_getElem? (i := 14) rfl)) (by omega) (by omega) (by omega) (Nat.le_refl _) (Nat.le_refl _) (Nat.le_of_ble_eq_true rfl) dX1_leastDays_75 ?_
              refine C.topI (b := dyS wh ac cs acc p.2) (by rw [yes (by rw [hQ, b2i_t hc51, decide_eq_true ⟨by omega, by omega⟩]; rfl)]; first | rw [if_pos (show acc < 0 by omega)] | rw [if_neg (show ¬ acc < 0 by omega)]) ?_
              refine C.istore dX1_leastDays_78 (by decide) rfl ?_
              refine C.iincI dX1_leastDays_80 rfl (by decide) rfl ?_
              refine C.goto (tgt := 6) dX1_leastDays_83 (by decide) ?_
              first | exact nx _ | (rw [no (by rw [hQ, b2i_f hc51, Bool.and_false])] at nx; exact nx _) | (rw [no (by rw [hQ, decide_eq_false (fun q => by omega), Bool.false_and])] at nx; exact nx _)
            · refine C.aload dX1_leastDays_60 rfl ?_
              refine C.getf gf_X1_123 dX1_leastDays_62 hpL hfp rfl ?_
              refine C.goto (tgt := 78) dX1_leastDays_65 (by decide) ?_
              refine C.topI (b := dyS wh ac cs acc p.2) (by rw [yes (by rw [hQ, b2i_t hc51, decide_eq_true ⟨by omega, by omega⟩]; rfl)]; first | rw [if_pos (show acc < 0 by omega)] | rw [if_neg (show ¬ acc < 0 by omega)]) ?_
              refine C.istore dX1_leastDays_78 (by decide) rfl ?_
              refine C.iincI dX1_leastDays_80 rfl (by decide) rfl ?_
              refine C.goto (tgt := 6) dX1_leastDays_83 (by decide) ?_
              first | exact nx _ | (rw [no (by rw [hQ, b2i_f hc51, Bool.and_false])] at nx; exact nx _) | (rw [no (by rw [hQ, decide_eq_false (fun q => by omega), Bool.false_and])] at nx; exact nx _)
  refine C.ic dX1_leastDays_0 ?_
  refine C.istore dX1_leastDays_1 (by decide) rfl ?_
  refine C.ic dX1_leastDays_3 ?_
  refine C.istore dX1_leastDays_4 (by decide) rfl ?_
  exact loop ps.length 0 (by omega) (show -1 ≤ (-1 : Int) ∧ (-1 : Int) ≤ 365 by decide) _
theorem t_casesAsking {k D : Nat} {y : Sen} {a : Int} (hd : 4 ≤ d) (ha : i3 a) (h : LtAt L f lt e ps) (hl : ps.length ≤ 24) (hy : SAt L f D k y) (hyo : SOk y) : AM yX1_casesAsking cX1_casesAsking 7 (some .long) d 0 0 [.ref lt, .ref k, .int (iI a)] L f (SP (some (.long (csA (ps.map (fun p => p.2)) y a))) L f) := by
  have M0 := lt_size (d := d - 1) h
  obtain ⟨-, hlt, hflt⟩ := h.1
  obtain ⟨cap, hls⟩ := h.2.1
  obtain ⟨hkL, -, ⟨m, n, hfk⟩, -⟩ := hls.obj
  refine AM.of (by decide +kernel) (by simp [Value.category]) (Nat.le_of_ble_eq_true rfl) false (fun h => by cases h) (fun X C => ?_)
  have loop : ∀ (n i : Nat), i + n = ps.length → ∀ v6, X 0 0 L f 5 [some (.ref lt), some (.ref k), some (.int (iI a)), some (.long (csA ((ps.map (fun p => p.2)).take i) y a)), none, some (.int (iI i)), v6] [] := by
    intro n
    induction n with
    | zero =>
      intro i hi v6
      rw [List.take_of_length_le (by rw [List.length_map]; omega)]
      refine C.iload dX1_casesAsking_5 rfl ?_
      refine C.aload_n dX1_casesAsking_7 rfl ?_
      refine C.getf gf_X1_12 dX1_casesAsking_8 hlt hflt rfl ?_
      refine C.callV (M0) cw_Jx4a65c_size_8abf5 ml_X1_18 im_Jx4a65c_size_8abf5 sl_Jx4a65c_size_8abf5 dX1_casesAsking_11 hkL hfk rfl rfl (by omega) (Nat.le_refl _) (Nat.le_refl _) (Nat.le_of_ble_eq_true rfl) rfl (fun r11 L11 f11 hR11 => ?_)
      obtain ⟨rfl, hL9, hf9⟩ := hR11
      rw [hL9, hf9]
      clear hL9 hf9
      refine C.icmp_geI (tgt := 57) dX1_casesAsking_14 (by decide) (by omega) (by omega) (fun hc14 => ?_) (fun hc14 => absurd hc14 (by omega))
      refine C.lload_n dX1_casesAsking_57 rfl ?_
      refine C.lret rfl dX1_casesAsking_58 (Nat.le_refl _) (Nat.le_refl _) ⟨rfl, rfl, rfl⟩
      skip
    | succ n ih =>
      intro i hi v6
      have hpi : ps[i]? = some (ps[i]'(by omega)) := List.getElem?_eq_getElem _
      generalize ps[i]'(by omega) = p at hpi
      have M1 := t_at (d := d - 1) (by omega) h hpi
      obtain ⟨hS, hx⟩ := (h.2.2 p (List.mem_of_getElem? hpi)).a29
      have M2 := s_asksLike (d := d - 1) hS hx hy hyo
      have M3 := s_names (d := d - 1) ha hS hx
      have M4 := s_truth (d := d - 1) hS
      obtain ⟨⟨hpL, -⟩, e0, w0, u0, hfp, -⟩ := hS
      have nx := ih (i + 1) (by omega)
      unfold csA at nx ⊢
      rw [List.take_add_one, List.getElem?_map, hpi, List.foldl_append] at nx
      generalize ((ps.map (fun p => p.2)).take i).foldl (fun z s => if aLk s y && hA s a then z ||| trS s else z) 0 = acc at *
      change ∀ v6, X 0 0 L f 5 [some (.ref lt), some (.ref k), some (.int (iI a)), some (.long (if aLk p.2 y && hA p.2 a then acc ||| trS p.2 else acc)), none, some (.int (iI ((i : Int) + 1))), v6] [] at nx
      refine C.iload dX1_casesAsking_5 rfl ?_
      refine C.aload_n dX1_casesAsking_7 rfl ?_
      refine C.getf gf_X1_12 dX1_casesAsking_8 hlt hflt rfl ?_
      refine C.callV (M0) cw_Jx4a65c_size_8abf5 ml_X1_18 im_Jx4a65c_size_8abf5 sl_Jx4a65c_size_8abf5 dX1_casesAsking_11 hkL hfk rfl rfl (by omega) (Nat.le_refl _) (Nat.le_refl _) (Nat.le_of_ble_eq_true rfl) rfl (fun r11 L11 f11 hR11 => ?_)
      obtain ⟨rfl, hL9, hf9⟩ := hR11
      rw [hL9, hf9]
      clear hL9 hf9
      refine C.icmp_geI (tgt := 57) dX1_casesAsking_14 (by decide) (by omega) (by omega) (fun hc14 => absurd hc14 (by omega)) (fun hc14 => ?_)
      refine C.aload_n dX1_casesAsking_17 rfl ?_
      refine C.iload dX1_casesAsking_18 rfl ?_
      refine C.callV (M1) cw_X1_at ml_X1_36 im_X1_at sl_X1_at dX1_casesAsking_20 hlt hflt rfl rfl (by omega) (Nat.le_refl _) (Nat.le_refl _) (Nat.le_of_ble_eq_true rfl) rfl (fun r20 L20 f20 hR20 => ?_)
      obtain ⟨rfl, hL9, hf9⟩ := hR20
      rw [hL9, hf9]
      clear hL9 hf9
      refine C.astore dX1_casesAsking_23 (by decide) rfl ?_
      refine C.aload dX1_casesAsking_25 rfl ?_
      refine C.aload_n dX1_casesAsking_27 rfl ?_
      refine C.callV (M2) cw_X3_asksLike ml_X1_104 im_X3_asksLike sl_X3_asksLike dX1_casesAsking_28 hpL hfp rfl rfl (by omega) (Nat.le_refl _) (Nat.le_refl _) (Nat.le_of_ble_eq_true rfl) rfl (fun r28 L28 f28 hR28 => ?_)
      obtain ⟨rfl, hL9, hf9⟩ := hR28
      rw [hL9, hf9]
      clear hL9 hf9
      refine C.if_eqI (tgt := 51) dX1_casesAsking_31 (by decide) (b2i_r3 _) (fun hc31 => ?_) (fun hc31 => ?_)
      · refine C.iincI dX1_casesAsking_51 rfl (by decide) rfl ?_
        refine C.goto (tgt := 5) dX1_casesAsking_54 (by decide) ?_
        first | (rw [b2i_t hc31, b2i_t hc40] at nx; exact nx _) | (rw [b2i_f hc40, Bool.and_false] at nx; exact nx _) | (rw [b2i_f hc31, Bool.false_and] at nx; exact nx _)
      · refine C.aload dX1_casesAsking_34 rfl ?_
        refine C.iload_n dX1_casesAsking_36 rfl ?_
        refine C.callV (M3) cw_X3_names ml_X1_107 im_X3_names sl_X3_names dX1_casesAsking_37 hpL hfp rfl rfl (by omega) (Nat.le_refl _) (Nat.le_refl _) (Nat.le_of_ble_eq_true rfl) rfl (fun r37 L37 f37 hR37 => ?_)
        obtain ⟨rfl, hL9, hf9⟩ := hR37
        rw [hL9, hf9]
        clear hL9 hf9
        refine C.if_eqI (tgt := 51) dX1_casesAsking_40 (by decide) (b2i_r3 _) (fun hc40 => ?_) (fun hc40 => ?_)
        · refine C.iincI dX1_casesAsking_51 rfl (by decide) rfl ?_
          refine C.goto (tgt := 5) dX1_casesAsking_54 (by decide) ?_
          first | (rw [b2i_t hc31, b2i_t hc40] at nx; exact nx _) | (rw [b2i_f hc40, Bool.and_false] at nx; exact nx _) | (rw [b2i_f hc31, Bool.false_and] at nx; exact nx _)
        · refine C.lload_n dX1_casesAsking_43 rfl ?_
          refine C.aload dX1_casesAsking_44 rfl ?_
          refine C.callV (M4) cw_X3_truth ml_X1_111 im_X3_truth sl_X3_truth dX1_casesAsking_46 hpL hfp rfl rfl (by omega) (Nat.le_refl _) (Nat.le_refl _) (Nat.le_of_ble_eq_true rfl) rfl (fun r46 L46 f46 hR46 => ?_)
          obtain ⟨rfl, hL9, hf9⟩ := hR46
          rw [hL9, hf9]
          clear hL9 hf9
          refine C.lor dX1_casesAsking_49 ?_
          refine C.lstore_n dX1_casesAsking_50 (by decide) rfl ?_
          refine C.iincI dX1_casesAsking_51 rfl (by decide) rfl ?_
          refine C.goto (tgt := 5) dX1_casesAsking_54 (by decide) ?_
          first | (rw [b2i_t hc31, b2i_t hc40] at nx; exact nx _) | (rw [b2i_f hc40, Bool.and_false] at nx; exact nx _) | (rw [b2i_f hc31, Bool.false_and] at nx; exact nx _)
  refine C.lconst dX1_casesAsking_0 rfl ?_
  refine C.lstore_n dX1_casesAsking_1 (by decide) rfl ?_
  refine C.ic dX1_casesAsking_2 ?_
  refine C.istore dX1_casesAsking_3 (by decide) rfl ?_
  exact loop ps.length 0 (by omega) _
set_option maxHeartbeats 1000000 in
theorem t_isWithin {lt2 e2 : Nat} {ps2 : List (Nat × Sen)} (hd : 5 ≤ d) (h : LtAt L f lt e ps) (hl : ps.length ≤ 24) (h2 : LtAt L f lt2 e2 ps2) (hl2 : ps2.length ≤ 24) : AM yX1_isWithin cX1_isWithin 8 (some .boolean) d 0 0 [.ref lt, .ref lt2] L f (fun r L' f' => (∃ B : Bool, r = some (.int (iI (b2i B))) ∧ (B = true ↔ wiN (ps.map (fun p => p.2)) (ps2.map (fun p => p.2)))) ∧ L' = L ∧ f' = f) := by
  have M0 := lt_size (d := d - 1) h
  obtain ⟨-, hlt, hflt⟩ := h.1
  obtain ⟨-, hlt2, hflt2⟩ := h2.1
  obtain ⟨cap, hls⟩ := h.2.1
  obtain ⟨hkL, -, ⟨m, n, hfk⟩, -⟩ := hls.obj
  have hiff := wiN_iff h.tOk h2.tOk
  generalize hxs : ps.map (fun p => p.2) = xs at *
  generalize hys : ps2.map (fun p => p.2) = ys at *
  refine AM.of (by decide +kernel) (by simp [Value.category]) (Nat.le_of_ble_eq_true rfl) false (fun h => by cases h) (fun X C => ?_)
  have inner : ∀ (i : Nat) (p : Nat × Sen) (e0 : Nat) (g0 : Nat → Int), ps[i]? = some p → e0 ∈ L → f e0 = aI p.2.1.1.length g0 → (∀ j v, p.2.1.1[j]? = some v → g0 j = v) → p.2.1.1.length ≤ 3 → ((∀ a ∈ p.2.1.1, wiA xs ys p.2 a) → ∀ v7, X 0 0 L f 79 [some (.ref lt), some (.ref lt2), some (.int (iI i)), some (.ref p.1), some (.ref e0), some (.int (iI p.2.1.1.length)), some (.int (iI p.2.1.1.length)), v7] []) → ∀ (n j : Nat), j + n = p.2.1.1.length → (∀ a ∈ p.2.1.1.take j, wiA xs ys p.2 a) → ∀ v7, X 0 0 L f 33 [some (.ref lt), some (.ref lt2), some (.int (iI i)), some (.ref p.1), some (.ref e0), some (.int (iI p.2.1.1.length)), some (.int (iI j)), v7] [] := by
    intro i p e0 g0 hpi he0 hfe0 hg0 hlen kk n
    obtain ⟨hS, hx⟩ := (h.2.2 p (List.mem_of_getElem? hpi)).a29
    have h9 := hx.1.1.2.2.1
    induction n with
    | zero =>
      intro j hj hall v7
      rw [List.take_of_length_le (by omega)] at hall
      have hjl : j = p.2.1.1.length := by omega
      rw [hjl]
      refine C.iload dX1_isWithin_33 rfl ?_
      refine C.iload dX1_isWithin_35 rfl ?_
      refine C.icmp_geI (tgt := 79) dX1_isWithin_37 (by decide) (by omega) (by omega) (fun hc37 => ?_) (fun hc37 => absurd hc37 (by omega))
      exact kk hall _
    | succ n ih =>
      intro j hj hall v7
      have hvi : p.2.1.1[j]? = some (p.2.1.1[j]'(by omega)) := List.getElem?_eq_getElem _
      generalize p.2.1.1[j]'(by omega) = v at hvi
      have hv9 := h9 v (List.mem_of_getElem? hvi)
      have hgv := hg0 j v hvi
      have hv3 : i3 v := by unfold i3; omega
      have M1 := t_casesAsking (d := d - 1) (a := v) (by omega) hv3 h hl hS hx
      have M2 := t_casesAsking (d := d - 1) (a := v) (by omega) hv3 h2 hl2 hS hx
      rw [hxs] at M1
      rw [hys] at M2
      obtain ⟨c, hc, hc0, hc1, hc2⟩ := lg0 (csA xs p.2 v &&& (csA ys p.2 v ^^^ (-1)))
      have nx := ih (j + 1) (by omega)
      rw [List.take_add_one, hvi] at nx
      refine C.iload dX1_isWithin_33 rfl ?_
      refine C.iload dX1_isWithin_35 rfl ?_
      refine C.icmp_geI (tgt := 79) dX1_isWithin_37 (by decide) (by omega) (by omega) (fun hc37 => absurd hc37 (by omega)) (fun hc37 => ?_)
      refine C.aload dX1_isWithin_40 rfl ?_
      refine C.iload dX1_isWithin_42 rfl ?_
      refine C.ialdI dX1_isWithin_44 he0 hfe0 (by omega) (by omega) ?_
      rw [Int.toNat_natCast, hgv]
      refine C.istore dX1_isWithin_45 (by decide) rfl ?_
      refine C.aload_n dX1_isWithin_47 rfl ?_
      refine C.aload_n dX1_isWithin_48 rfl ?_
      refine C.iload dX1_isWithin_49 rfl ?_
      refine C.callV (M1) cw_X1_casesAsking ml_X1_98 im_X1_casesAsking sl_X1_casesAsking dX1_isWithin_51 hlt hflt rfl rfl (by omega) (Nat.le_refl _) (Nat.le_refl _) (Nat.le_of_ble_eq_true rfl) rfl (fun r51 L51 f51 hR51 => ?_)
      obtain ⟨rfl, hL9, hf9⟩ := hR51
      rw [hL9, hf9]
      clear hL9 hf9
      refine C.aload_n dX1_isWithin_54 rfl ?_
      refine C.aload_n dX1_isWithin_55 rfl ?_
      refine C.iload dX1_isWithin_56 rfl ?_
      refine C.callV (M2) cw_X1_casesAsking ml_X1_98 im_X1_casesAsking sl_X1_casesAsking dX1_isWithin_58 hlt2 hflt2 rfl rfl (by omega) (Nat.le_refl _) (Nat.le_refl _) (Nat.le_of_ble_eq_true rfl) rfl (fun r58 L58 f58 hR58 => ?_)
      obtain ⟨rfl, hL9, hf9⟩ := hR58
      rw [hL9, hf9]
      clear hL9 hf9
      refine C.ldcl dX1_isWithin_61 kc_X1_102 ?_
      refine C.lxor dX1_isWithin_64 ?_
      refine C.land dX1_isWithin_65 ?_
      refine C.lconst dX1_isWithin_66 rfl ?_
      refine C.lcmp dX1_isWithin_67 ?_
      refine C.topV (congrArg Value.int hc) ?_
      refine C.if_eqI (tgt := 73) dX1_isWithin_68 (by decide) (by omega) (fun hc68 => ?_) (fun hc68 => ?_)
      · refine C.iincI dX1_isWithin_73 rfl (by decide) rfl ?_
        refine C.goto (tgt := 33) dX1_isWithin_76 (by decide) ?_
        exact nx (fun a ha => by
          rcases List.mem_append.mp ha with h | h
          · exact hall a h
          · rw [List.mem_singleton.mp h]; exact hc0.mp hc68) _
      · refine C.ic dX1_isWithin_71 ?_
        refine C.retI rfl (by first | rfl | (exact (iI_bool (by first | exact Or.inl rfl | exact Or.inr rfl | assumption)).1)) dX1_isWithin_72 (Nat.le_refl _) (Nat.le_refl _) ⟨⟨false, rfl, ⟨(fun q => by cases q), fun q => ?_⟩⟩, rfl, rfl⟩
        exact absurd (hc0.mpr (hiff.mpr q p.2 (hxs ▸ List.mem_map.mpr ⟨p, List.mem_of_getElem? hpi, rfl⟩) v (List.mem_of_getElem? hvi))) hc68
  have loop : ∀ (n i : Nat), i + n = ps.length → (∀ x ∈ xs.take i, ∀ a ∈ x.1.1, wiA xs ys x a) → ∀ v3 v4 v5 v6 v7, nw [some (.ref lt), some (.ref lt2), some (.int (iI i)), v3, v4, v5, v6, v7] 4 = true → nw [some (.ref lt), some (.ref lt2), some (.int (iI i)), v3, v4, v5, v6, v7] 5 = true → nw [some (.ref lt), some (.ref lt2), some (.int (iI i)), v3, v4, v5, v6, v7] 6 = true → nw [some (.ref lt), some (.ref lt2), some (.int (iI i)), v3, v4, v5, v6, v7] 7 = true → X 0 0 L f 2 [some (.ref lt), some (.ref lt2), some (.int (iI i)), v3, v4, v5, v6, v7] [] := by
    intro n
    induction n with
    | zero =>
      intro i hi hall v3 v4 v5 v6 v7 _ _ _ _
      rw [List.take_of_length_le (by rw [← hxs, List.length_map]; omega)] at hall
      refine C.iload_n dX1_isWithin_2 rfl ?_
      refine C.aload_n dX1_isWithin_3 rfl ?_
      refine C.getf gf_X1_12 dX1_isWithin_4 hlt hflt rfl ?_
      refine C.callV (M0) cw_Jx4a65c_size_8abf5 ml_X1_18 im_Jx4a65c_size_8abf5 sl_Jx4a65c_size_8abf5 dX1_isWithin_7 hkL hfk rfl rfl (by omega) (Nat.le_refl _) (Nat.le_refl _) (Nat.le_of_ble_eq_true rfl) rfl (fun r7 L7 f7 hR7 => ?_)
      obtain ⟨rfl, hL9, hf9⟩ := hR7
      rw [hL9, hf9]
      clear hL9 hf9
      refine C.icmp_geI (tgt := 85) dX1_isWithin_10 (by decide) (by omega) (by omega) (fun hc10 => ?_) (fun hc10 => absurd hc10 (by omega))
      refine C.ic dX1_isWithin_85 ?_
      refine C.retI rfl (by first | rfl | (exact (iI_bool (by first | exact Or.inl rfl | exact Or.inr rfl | assumption)).1)) dX1_isWithin_86 (Nat.le_refl _) (Nat.le_refl _) ⟨⟨true, rfl, ⟨fun _ => hiff.mp hall, fun _ => rfl⟩⟩, rfl, rfl⟩
      skip
    | succ n ih =>
      intro i hi hall v3 v4 v5 v6 v7 _ _ _ _
      have hpi : ps[i]? = some (ps[i]'(by omega)) := List.getElem?_eq_getElem _
      generalize ps[i]'(by omega) = p at hpi
      have M1 := t_at (d := d - 1) (by omega) h hpi
      obtain ⟨hS, hx⟩ := (h.2.2 p (List.mem_of_getElem? hpi)).a29
      have hlen := hx.1.1.1
      obtain ⟨⟨hpL, -⟩, e0, w0, u0, hfp, ⟨he0, -, g0, hfe0, hg0⟩, -⟩ := hS
      have nx := ih (i + 1) (by omega)
      rw [List.take_add_one, ← hxs, List.getElem?_map, hpi, hxs] at nx
      refine C.iload_n dX1_isWithin_2 rfl ?_
      refine C.aload_n dX1_isWithin_3 rfl ?_
      refine C.getf gf_X1_12 dX1_isWithin_4 hlt hflt rfl ?_
      refine C.callV (M0) cw_Jx4a65c_size_8abf5 ml_X1_18 im_Jx4a65c_size_8abf5 sl_Jx4a65c_size_8abf5 dX1_isWithin_7 hkL hfk rfl rfl (by omega) (Nat.le_refl _) (Nat.le_refl _) (Nat.le_of_ble_eq_true rfl) rfl (fun r7 L7 f7 hR7 => ?_)
      obtain ⟨rfl, hL9, hf9⟩ := hR7
      rw [hL9, hf9]
      clear hL9 hf9
      refine C.icmp_geI (tgt := 85) dX1_isWithin_10 (by decide) (by omega) (by omega) (fun hc10 => absurd hc10 (by omega)) (fun hc10 => ?_)
      refine C.aload_n dX1_isWithin_13 rfl ?_
      refine C.iload_n dX1_isWithin_14 rfl ?_
      refine C.callV (M1) cw_X1_at ml_X1_36 im_X1_at sl_X1_at dX1_isWithin_15 hlt hflt rfl rfl (by omega) (Nat.le_refl _) (Nat.le_refl _) (Nat.le_of_ble_eq_true rfl) rfl (fun r15 L15 f15 hR15 => ?_)
      obtain ⟨rfl, hL9, hf9⟩ := hR15
      rw [hL9, hf9]
      clear hL9 hf9
      refine C.astore_n dX1_isWithin_18 (by decide) rfl ?_
      refine C.aload_n dX1_isWithin_19 rfl ?_
      refine C.getf gf_X1_43 dX1_isWithin_20 hpL hfp rfl ?_
      refine C.astore dX1_isWithin_23 (by decide) rfl ?_
      refine C.aload dX1_isWithin_25 rfl ?_
      refine C.alenI dX1_isWithin_27 he0 hfe0 (by decide) ?_
      refine C.istore dX1_isWithin_28 (by decide) rfl ?_
      refine C.ic dX1_isWithin_30 ?_
      refine C.istore dX1_isWithin_31 (by decide) rfl ?_
      skip
      refine inner i p e0 g0 hpi he0 hfe0 hg0 hlen (fun hq v7 => ?_) p.2.1.1.length 0 (by omega) (fun a ha => by cases ha) _
      refine C.iincI dX1_isWithin_79 rfl (by decide) rfl ?_
      refine C.goto (tgt := 2) dX1_isWithin_82 (by decide) ?_
      skip
      exact nx (fun x hx a ha => by
        rcases List.mem_append.mp hx with h | h
        · exact hall x h a ha
        · rw [List.mem_singleton.mp h] at ha ⊢; exact hq a ha) _ _ _ _ _ rfl rfl rfl rfl
  refine C.ic dX1_isWithin_0 ?_
  refine C.istore_n dX1_isWithin_1 (by decide) rfl ?_
  exact loop ps.length 0 (by omega) (fun x hx => by cases hx) _ _ _ _ _ rfl rfl rfl rfl
end ASKED
