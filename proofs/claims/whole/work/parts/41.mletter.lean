set_option maxRecDepth 20000 in
set_option maxHeartbeats 2000000 in
theorem m_letter {d e : Nat} (hd : 64 ≤ d) {sf : SF} {sa : SA} (h21 : sf 21 = e) (he : e ≤ 400) (htb : TB sa) : MM yX9_letter cX9_letter 3 (some .int) d [] sf sa (fun r sf' sa' => match lettF (sa 32) e 8 [] 0 with
    | .inl q => r = some (.int (iI q.1.length)) ∧ (sf' 0 = 0 ∧ sf' 9 = q.1.length ∧ sf' 10 = q.1.length ∧ sf' 11 = sf 11 + 1 ∧ sf' 12 = 0 ∧ sf' 13 = 1 ∧ sf' 21 = 0 ∧ sf' 25 = -1) ∧ (SensAt sa' 0 q.1 ∧ SensAt sa' 24 q.1 ∧ (∀ x ∈ q.1, SOk x) ∧ q.1.length ≤ 8 ∧ 1 ≤ q.1.length) ∧ sa' 32 = sa 32
    | .inr b => r = some (.int (iI 0)) ∧ (sf' 0 = 1 ∧ sf' 9 = sf 9 ∧ sf' 10 = sf 10 ∧ sf' 11 = sf 11 ∧ sf' 12 = sf 12 ∧ sf' 13 = sf 13 ∧ sf' 21 = 0 ∧ sf' 25 = b) ∧ GbR 48 56 sa sa') := by
  have hM := m_readAll (d := d - 1) (e := e) (sf := va_up (va_up (va_up sf 0 0) 23 (sf 21)) 21 0) (sa := sa) (by omega) h21 he htb
  generalize hRES : lettF (sa 32) e 8 [] 0 = RES at hM
  cases RES with
  | inr b =>
    refine MM.of2 (by decide +kernel) rfl (Nat.le_of_ble_eq_true rfl) (fun L g hL X C => ?_)
    refine C.aload_n dX9_letter_0 rfl ?_
    refine C.ic dX9_letter_1 ?_
    refine C.mput hL pf_X9_59 dX9_letter_2 (by decide) rfl ?_
    refine C.aload_n dX9_letter_5 rfl ?_
    refine C.aload_n dX9_letter_6 rfl ?_
    refine C.mget hL gf_X9_96 dX9_letter_7 rfl ?_
    refine C.mput hL pf_X9_102 dX9_letter_10 (by decide) rfl ?_
    refine C.aload_n dX9_letter_13 rfl ?_
    refine C.ic dX9_letter_14 ?_
    refine C.mput hL pf_X9_96 dX9_letter_15 (by decide) rfl ?_
    refine C.aload_n dX9_letter_18 rfl ?_
    refine C.mcall hL (hM) cw_X9_readAll ml_X9_206 im_X9_readAll sl_X9_readAll dX9_letter_19 rfl rfl (by omega) (Nat.le_refl _) (Nat.le_refl _) (Nat.le_of_ble_eq_true rfl) rfl (fun r19 sf19 sa19 hR19 => ?_)
    obtain ⟨rfl, ⟨n1, n2⟩, n3⟩ := hR19
    have hT := m_throwsIf (d := d - 1) (sf := va_up sf19 25 (sf19 24)) (sa := sa19) (b := 1) (z := 1) (Or.inr rfl)
    rw [if_neg (by decide)] at hT
    refine C.istore_n dX9_letter_22 (by decide) rfl ?_
    refine C.aload_n dX9_letter_23 rfl ?_
    refine C.iload_n dX9_letter_24 rfl ?_
    refine C.if_geI (tgt := 35) dX9_letter_25 (by decide) (by omega) (fun hc25 => absurd hc25 (by omega)) (fun hc25 => ?_)
    refine C.aload_n dX9_letter_28 rfl ?_
    refine C.mget hL gf_X9_109 dX9_letter_29 rfl ?_
    refine C.goto (tgt := 36) dX9_letter_32 (by decide) ?_
    refine C.mput hL pf_X9_49 dX9_letter_36 (by decide) rfl ?_
    refine C.aload_n dX9_letter_39 rfl ?_
    refine C.iload_n dX9_letter_40 rfl ?_
    refine C.if_geI (tgt := 48) dX9_letter_41 (by decide) (by omega) (fun hc41 => absurd hc41 (by omega)) (fun hc41 => ?_)
    refine C.ic dX9_letter_44 ?_
    refine C.goto (tgt := 49) dX9_letter_45 (by decide) ?_
    refine C.ic dX9_letter_49 ?_
    refine C.mcall hL (hT) cw_X9_throwsIf ml_X9_209 im_X9_throwsIf sl_X9_throwsIf dX9_letter_50 rfl rfl (by omega) (Nat.le_refl _) (Nat.le_refl _) (Nat.le_of_ble_eq_true rfl) rfl (fun r50 sf50 sa50 hR50 => ?_)
    obtain ⟨rfl, hs, ha⟩ := hR50
    rw [hs, ha]
    clear hs ha
    refine C.if_eqI (tgt := 58) dX9_letter_53 (by decide) (by decide) (fun hc53 => absurd hc53 (by decide)) (fun hc53 => ?_)
    refine C.ic dX9_letter_56 ?_
    refine C.retI rfl (by first | rfl | (exact (iI_bool (by first | exact Or.inl rfl | exact Or.inr rfl | assumption)).1)) dX9_letter_57 (Nat.le_refl _) (Nat.le_refl _) ⟨_, _, ?_, rfl, rfl⟩
    refine ⟨rfl, ⟨rfl, ?_, ?_, ?_, ?_, ?_, ?_, n2⟩, n3.R⟩
    · exact n1 9 (by decide) (by decide) (by decide) (by decide) (by decide) (by decide)
    · exact n1 10 (by decide) (by decide) (by decide) (by decide) (by decide) (by decide)
    · exact n1 11 (by decide) (by decide) (by decide) (by decide) (by decide) (by decide)
    · exact n1 12 (by decide) (by decide) (by decide) (by decide) (by decide) (by decide)
    · exact n1 13 (by decide) (by decide) (by decide) (by decide) (by decide) (by decide)
    · exact n1 21 (by decide) (by decide) (by decide) (by decide) (by decide) (by decide)
  | inl q =>
    refine MM.of2 (by decide +kernel) rfl (Nat.le_of_ble_eq_true rfl) (fun L g hL X C => ?_)
    refine C.aload_n dX9_letter_0 rfl ?_
    refine C.ic dX9_letter_1 ?_
    refine C.mput hL pf_X9_59 dX9_letter_2 (by decide) rfl ?_
    refine C.aload_n dX9_letter_5 rfl ?_
    refine C.aload_n dX9_letter_6 rfl ?_
    refine C.mget hL gf_X9_96 dX9_letter_7 rfl ?_
    refine C.mput hL pf_X9_102 dX9_letter_10 (by decide) rfl ?_
    refine C.aload_n dX9_letter_13 rfl ?_
    refine C.ic dX9_letter_14 ?_
    refine C.mput hL pf_X9_96 dX9_letter_15 (by decide) rfl ?_
    refine C.aload_n dX9_letter_18 rfl ?_
    refine C.mcall hL (hM) cw_X9_readAll ml_X9_206 im_X9_readAll sl_X9_readAll dX9_letter_19 rfl rfl (by omega) (Nat.le_refl _) (Nat.le_refl _) (Nat.le_of_ble_eq_true rfl) rfl (fun r19 sf19 sa19 hR19 => ?_)
    obtain ⟨rfl, n1, n3, nl, nl1, nx⟩ := hR19
    have hT := m_throwsIf (d := d - 1) (sf := va_up sf19 25 (-1)) (sa := sa19) (b := 0) (z := 1) (Or.inl rfl)
    rw [if_pos rfl] at hT
    have hok : ∀ x ∈ q.1, SOk x := fun x hx => by
      obtain ⟨i, hi⟩ := List.getElem?_of_mem hx
      exact (nx i x hi).2
    have hdr : SensAt sa19 48 q.1 := fun i x hi => (nx i x hi).1
    have loop : ∀ (n i : Nat) (sac : SA), i + n = q.1.length → GbR 0 8 sa19 sac → (∀ j x, j < i → q.1[j]? = some x → SenAt sac j x) → X 0 0 L (ov (va_up sf19 25 (-1)) sac g) 60 [some (.ref 20), some (.int (iI q.1.length)), some (.int (iI i))] [] := by
      intro n
      induction n with
      | zero =>
        intro i sac hi hg hs
        have hsens : SensAt sac 0 q.1 := fun j x hj => by
          rw [Nat.zero_add]
          exact hs j x (by have := (List.getElem?_eq_some_iff.mp hj).1; omega) hj
        have hRn := m_renews (d := d - 1) (sf := va_up (va_up (va_up (va_up (va_up sf19 25 (-1)) 9 q.1.length) 13 1) 11 (sf19 11 + 1)) 12 0) (sa := sac) (by omega) rfl nl hsens hok
        refine C.iload_n dX9_letter_60 rfl ?_
        refine C.iload_n dX9_letter_61 rfl ?_
        refine C.icmp_geI (tgt := 82) dX9_letter_62 (by decide) (by omega) (by omega) (fun _ => ?_) (fun h => absurd h (by omega))
        refine C.aload_n dX9_letter_82 rfl ?_
        refine C.iload_n dX9_letter_83 rfl ?_
        refine C.mput hL pf_X9_216 dX9_letter_84 (by decide) rfl ?_
        refine C.aload_n dX9_letter_87 rfl ?_
        refine C.ic dX9_letter_88 ?_
        refine C.mputz hL pf_X9_219 dX9_letter_89 (by decide) (Or.inr rfl) rfl ?_
        refine C.aload_n dX9_letter_92 rfl ?_
        refine C.dup dX9_letter_93 rfl ?_
        refine C.mget hL gf_X9_223 dX9_letter_94 rfl ?_
        refine C.ic dX9_letter_97 ?_
        refine C.iaddI dX9_letter_98 ?_
        refine C.mput hL pf_X9_223 dX9_letter_99 (by decide) rfl ?_
        refine C.aload_n dX9_letter_102 rfl ?_
        refine C.ic dX9_letter_103 ?_
        refine C.mput hL pf_X9_226 dX9_letter_104 (by decide) rfl ?_
        refine C.aload_n dX9_letter_107 rfl ?_
        refine C.mcall hL hRn cw_X9_renews ml_X9_229 im_X9_renews sl_X9_renews dX9_letter_108 rfl rfl (by omega) (Nat.le_refl _) (Nat.le_refl _) (Nat.le_of_ble_eq_true rfl) rfl (fun r108 sf108 sa108 hR108 => ?_)
        obtain ⟨rfl, hs2, k1, k2⟩ := hR108
        rw [hs2]
        clear hs2
        refine C.iload_n dX9_letter_111 rfl ?_
        refine C.retI rfl rfl dX9_letter_112 (Nat.le_refl _) (Nat.le_refl _) ⟨_, _, ?_, rfl, rfl⟩
        refine ⟨rfl, ⟨?_, rfl, rfl, ?_, rfl, rfl, ?_, rfl⟩, ⟨hsens.R hok k2 (Or.inl (by omega)), k1, hok, nl, nl1⟩, ?_⟩
        · exact n1 0 (by decide) (by decide) (by decide) (by decide) (by decide) (by decide)
        · show sf19 11 + 1 = sf 11 + 1
          rw [n1 11 (by decide) (by decide) (by decide) (by decide) (by decide) (by decide)]
          rfl
        · exact n1 21 (by decide) (by decide) (by decide) (by decide) (by decide) (by decide)
        · rw [k2.tape, hg.tape, n3.tape]
      | succ n ih =>
        intro i sac hi hg hs
        have hil : i < q.1.length := by omega
        have hxi : q.1[i]? = some q.1[i] := List.getElem?_eq_getElem hil
        have hsi := (hdr.R hok hg (Or.inr (by omega))) i _ hxi
        have hCp := m_copiesS (d := d - 1) (sf := va_up sf19 25 (-1)) (fr := 48 + i) (to := i) (by omega) (by omega) hsi (hok _ (List.getElem_mem hil))
        refine C.iload_n dX9_letter_60 rfl ?_
        refine C.iload_n dX9_letter_61 rfl ?_
        refine C.icmp_geI (tgt := 82) dX9_letter_62 (by decide) (by omega) (by omega) (fun h => absurd h (by omega)) (fun _ => ?_)
        refine C.aload_n dX9_letter_65 rfl ?_
        refine C.bi dX9_letter_66 (by decide) ?_
        refine C.iload_n dX9_letter_68 rfl ?_
        refine C.iaddI dX9_letter_69 ?_
        refine C.topI (b := ((48 + i : Nat) : Int)) (by omega) ?_
        refine C.ic dX9_letter_70 ?_
        refine C.iload_n dX9_letter_71 rfl ?_
        refine C.iaddI dX9_letter_72 ?_
        refine C.topI (b := (i : Int)) (by omega) ?_
        refine C.mcall hL hCp cw_X9_copies ml_X9_213 im_X9_copies sl_X9_copies dX9_letter_73 rfl rfl (by omega) (Nat.le_refl _) (Nat.le_refl _) (Nat.le_of_ble_eq_true rfl) rfl (fun r73 sf73 sa73 hR73 => ?_)
        obtain ⟨rfl, hs2, k1, k2⟩ := hR73
        rw [hs2]
        clear hs2
        refine C.iincI dX9_letter_76 rfl (by decide) rfl ?_
        refine C.goto (tgt := 60) dX9_letter_79 (by decide) ?_
        refine ih (i + 1) _ (by omega) (hg.tr (k2.R (by omega) (by omega))) (fun j x hj hjx => ?_)
        by_cases hji : j = i
        · subst hji
          rw [hxi] at hjx
          cases hjx
          exact k1
        · exact (hs j x (by omega) hjx).S (hok x (List.mem_of_getElem? hjx)).1.1.1 k2 (by omega)
    refine C.istore_n dX9_letter_22 (by decide) rfl ?_
    refine C.aload_n dX9_letter_23 rfl ?_
    refine C.iload_n dX9_letter_24 rfl ?_
    refine C.if_geI (tgt := 35) dX9_letter_25 (by decide) (by omega) (fun hc25 => ?_) (fun hc25 => absurd hc25 (by omega))
    refine C.ic dX9_letter_35 ?_
    refine C.mput hL pf_X9_49 dX9_letter_36 (by decide) rfl ?_
    refine C.aload_n dX9_letter_39 rfl ?_
    refine C.iload_n dX9_letter_40 rfl ?_
    refine C.if_geI (tgt := 48) dX9_letter_41 (by decide) (by omega) (fun hc41 => ?_) (fun hc41 => absurd hc41 (by omega))
    refine C.ic dX9_letter_48 ?_
    refine C.ic dX9_letter_49 ?_
    refine C.mcall hL (hT) cw_X9_throwsIf ml_X9_209 im_X9_throwsIf sl_X9_throwsIf dX9_letter_50 rfl rfl (by omega) (Nat.le_refl _) (Nat.le_refl _) (Nat.le_of_ble_eq_true rfl) rfl (fun r50 sf50 sa50 hR50 => ?_)
    obtain ⟨rfl, hs, ha⟩ := hR50
    rw [hs, ha]
    clear hs ha
    refine C.if_eqI (tgt := 58) dX9_letter_53 (by decide) (by decide) (fun hc53 => ?_) (fun hc53 => absurd hc53 (fun h => h rfl))
    refine C.ic dX9_letter_58 ?_
    refine C.istore_n dX9_letter_59 (by decide) rfl ?_
    exact loop q.1.length 0 sa19 (by omega) GbR.rf (fun j x hj => absurd hj (by omega))
