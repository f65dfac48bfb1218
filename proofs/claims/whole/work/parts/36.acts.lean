abbrev RLs : Type := (List Int × Nat) ⊕ Nat
def actG (tb : Nat → Int) (e : Nat) (rec : List Int → Nat → RLs) (acc : List Int) (p : Nat) : RLs :=
  if nmV tb e (bl tb e p) 0 9 ∈ acc ∨ nmV tb e (bl tb e p) 0 9 < 0 then .inr (bl tb e p)
  else if psP tb e (dend tb e (bl tb e p)) zAnd then (if acc.length = 2 then .inr (bl tb e (dend tb e (bl tb e p))) else rec (acc ++ [nmV tb e (bl tb e p) 0 9]) (wend tb e (bl tb e (dend tb e (bl tb e p)))))
  else .inl (acc ++ [nmV tb e (bl tb e p) 0 9], bl tb e (dend tb e (bl tb e p)))
/-- acts, the word act being read already or not -/
def actF (tb : Nat → Int) (e : Nat) : Nat → List Int → Nat → Bool → RLs
  | 0, _, p, _ => .inr p
  | n + 1, acc, p, has => if has then actG tb e (fun acc p => actF tb e n acc p false) acc p else if psP tb e p zAct then actG tb e (fun acc p => actF tb e n acc p false) acc (wend tb e (bl tb e p)) else .inr (bl tb e p)
/-- sentence s has these acts -/
def actS (sa : SA) (s : Nat) (xs : List Int) : SA := fun a j => if a = 21 ∧ j = s then (xs.length : Int) else if a = 22 ∧ 3 * s ≤ j ∧ j < 3 * s + xs.length then xs.getD (j - 3 * s) 0 else sa a j
theorem actS_ne {sa : SA} {s a : Nat} {xs : List Int} (h1 : a ≠ 21) (h2 : a ≠ 22) : actS sa s xs a = sa a := by
  funext j
  unfold actS
  rw [if_neg (fun h => h1 h.1), if_neg (fun h => h2 h.1)]
theorem actS_nil {sa : SA} {s : Nat} (h : sa 21 s = 0) : actS sa s [] = sa := by
  funext a j
  unfold actS
  by_cases h1 : a = 21 ∧ j = s
  · rw [if_pos h1, h1.1, h1.2, h]; rfl
  · rw [if_neg h1, if_neg (by simp)]
theorem actS_21 {sa : SA} {s : Nat} {xs : List Int} : actS sa s xs 21 s = xs.length := by unfold actS; rw [if_pos ⟨rfl, rfl⟩]
theorem actS_22 {sa : SA} {s k : Nat} {xs : List Int} (h : k < xs.length) : actS sa s xs 22 (3 * s + k) = xs.getD k 0 := by
  unfold actS
  rw [if_neg (by simp), if_pos ⟨rfl, by omega, by omega⟩]
  congr 1
  omega
theorem actS_snoc {sa : SA} {s : Nat} {xs : List Int} {v : Int} : va_up (va_up (actS sa s xs) 22 (va_up (actS sa s xs 22) (3 * s + xs.length) v)) 21 (va_up (actS sa s xs 21) s ((xs.length : Int) + 1)) = actS sa s (xs ++ [v]) := by
  funext a j
  by_cases h1 : a = 21
  · subst h1
    rw [va_up_self]
    by_cases hj : j = s
    · subst hj
      rw [va_up_self, actS_21, List.length_append]
      rfl
    · rw [va_up_ne _ _ hj]
      unfold actS
      simp [hj]
  · rw [va_up_ne _ _ h1]
    by_cases h2 : a = 22
    · subst h2
      rw [va_up_self]
      by_cases hj : j = 3 * s + xs.length
      · subst hj
        rw [va_up_self, actS_22 (by simp)]
        simp
      · rw [va_up_ne _ _ hj]
        unfold actS
        have n1 : ¬ ((22 : Nat) = 21 ∧ j = s) := by simp
        rw [if_neg n1, if_neg n1]
        by_cases hr : 3 * s ≤ j ∧ j < 3 * s + xs.length
        · rw [if_pos ⟨rfl, hr⟩, if_pos ⟨rfl, hr.1, by simp; omega⟩, List.getD_eq_getElem?_getD, List.getD_eq_getElem?_getD, List.getElem?_append_left (by omega)]
        · rw [if_neg (fun h => hr h.2), if_neg (fun h => hr ⟨h.2.1, by have := h.2.2; simp at this; omega⟩)]
    · rw [va_up_ne _ _ h2, actS_ne h1 h2, actS_ne h1 h2]
set_option maxRecDepth 20000 in
set_option maxHeartbeats 2000000 in
theorem m_readActs {d p e s : Nat} {has : Bool} (hd : 6 ≤ d) (hs : s < 100) {sf : SF} {sa : SA} (h : PD e p sf sa) (h0 : sa 21 s = 0) : MM yX9_readActs cX9_readActs 6 (some .boolean) d [.int (iI s), .int (iI (b2i has))] sf sa (fun r sf' sa' => match actF (sa 32) e 3 [] p has with
    | .inl q => r = some (.int (iI 1)) ∧ (Gf sf sf' ∧ sf' 22 = q.2) ∧ sa' = actS sa s q.1
    | .inr b => r = some (.int (iI 0)) ∧ (Gf sf sf' ∧ sf' 24 = b) ∧ ∃ acc, acc.length ≤ 3 ∧ sa' = actS sa s acc) := by
  obtain ⟨h22, h23, hpe, he, htb⟩ := id h
  generalize hRES : actF (sa 32) e 3 [] p has = RES
  refine MM.of2 (by decide +kernel) rfl (Nat.le_of_ble_eq_true rfl) (fun L g hL X C => ?_)
  have e32 : ∀ acc, actS sa s acc 32 = sa 32 := fun acc => actS_ne (by decide) (by decide)
  have failR : ∀ (pc : Nat) (b : Nat) (acc : List Int) (sfc : SF) lv, decode cX9_readActs pc = .ok (.iconst 0, 1) → decode cX9_readActs (pc + 1) = .ok (.ireturn, 1) → RES = .inr b → acc.length ≤ 3 → Gf sf sfc → sfc 24 = b → X 0 0 L (ov sfc (actS sa s acc) g) pc lv [] := by
    intro pc b acc sfc lv d1 d2 hr ha hg h24
    subst hr
    refine C.ic d1 ?_
    refine C.retI rfl (by decide) d2 (Nat.le_refl _) (Nat.le_refl _) ⟨_, _, ?_, rfl, rfl⟩
    exact ⟨rfl, ⟨hg, h24⟩, acc, ha, rfl⟩
  have main : ∀ (n : Nat) (acc : List Int) (p : Nat) (has : Bool) (sfc : SF) (w2 : Int) w4 w5, acc.length + n = 3 → PD e p sfc sa → Gf sf sfc → (∀ v ∈ acc, 0 ≤ v ∧ v ≤ 9) → actF (sa 32) e n acc p has = RES → 1 ≤ n → X 0 0 L (ov sfc (actS sa s acc) g) 2 [some (.ref 20), some (.int (iI s)), some (.int (iI w2)), some (.int (iI (b2i has))), w4, w5] [] := by
    intro n
    induction n with
    | zero => intro acc p has sfc w2 w4 w5 _ _ _ _ _ h1; omega
    | succ n ih =>
      intro acc p has sfc w2 w4 w5 hlen hPD hG hv hres _
      have hPA : ∀ acc q sfd, PD e q sfd sa → PD e q sfd (actS sa s acc) := fun acc q sfd hq => ⟨hq.1, hq.2.1, hq.2.2.1, hq.2.2.2.1, fun j => by rw [e32]; exact htb j⟩
      have body : ∀ (p1 : Nat) (sfd : SF) w3, PD e p1 sfd sa → Gf sf sfd → actG (sa 32) e (fun acc p => actF (sa 32) e n acc p false) acc p1 = RES → X 0 0 L (ov sfd (actS sa s acc) g) 17 [some (.ref 20), some (.int (iI s)), some (.int (iI w2)), some (.int (iI w3)), w4, w5] [] := by
        intro p1 sfd w3 hP1 hG1 hr1
        have hb := bl_le (tb := sa 32) hP1.2.2.1
        have hde : dend (sa 32) e (bl (sa 32) e p1) ≤ e := sk_le hb
        have hN := m_numberG (d := d - 1) (lo := 0) (hi := 9) (by omega) (hPA acc p1 sfd hP1) (by omega) (by omega)
        rw [e32] at hN
        have hvr := nmV_rng (sa 32) e (bl (sa 32) e p1) 0 9
        generalize hV : nmV (sa 32) e (bl (sa 32) e p1) 0 9 = v at hN hvr
        refine C.ic dX9_readActs_17 ?_
        refine C.istore_n dX9_readActs_18 (by decide) rfl ?_
        refine C.aload_n dX9_readActs_19 rfl ?_
        refine C.ic dX9_readActs_20 ?_
        refine C.bi dX9_readActs_21 (by decide) ?_
        refine C.mcall hL (hN) cw_X9_number ml_X9_151 im_X9_number sl_X9_number dX9_readActs_23 rfl rfl (by omega) (Nat.le_refl _) (Nat.le_refl _) (Nat.le_of_ble_eq_true rfl) rfl (fun r23 sf23 sa23 hR23 => ?_)
        obtain ⟨rfl, ⟨g1, g2, g3⟩, ha⟩ := hR23
        rw [ha]
        clear ha
        have hG2 := hG1.tr g1
        have inner : ∀ (m k : Nat), k + m = acc.length → (∀ i, i < k → acc.getD i 0 ≠ v) → X 0 0 L (ov sf23 (actS sa s acc) g) 31 [some (.ref 20), some (.int (iI s)), some (.int (iI w2)), some (.int (iI 0)), some (.int (iI v)), some (.int (iI k))] [] := by
          intro m
          induction m with
          | zero =>
            intro k hk hne
            have hnm : v ∉ acc := fun hm => by
              obtain ⟨i, hi, hiv⟩ := List.getElem_of_mem hm
              refine hne i (by omega) ?_
              rw [List.getD_eq_getElem?_getD, List.getElem?_eq_getElem hi, hiv]
              rfl
            have e21 : actS sa s acc 21 s = acc.length := actS_21
            refine C.iload dX9_readActs_31 rfl ?_
            refine C.aload_n dX9_readActs_33 rfl ?_
            refine C.mget hL gf_X9_9 dX9_readActs_34 rfl ?_
            refine C.iload_n dX9_readActs_37 rfl ?_
            refine C.maldk hL dX9_readActs_38 (by decide) rfl (by decide) rfl (by omega) ?_
            refine C.icmp_geI (tgt := 66) dX9_readActs_39 (by decide) (by omega) (by omega) (fun _ => ?_) (fun h => absurd h (by omega))
            refine C.iload dX9_readActs_66 rfl ?_
            by_cases hv0 : v < 0
            · refine C.if_geI (tgt := 73) dX9_readActs_68 (by decide) (by omega) (fun h => absurd h (by omega)) (fun _ => ?_)
              refine failR 71 (bl (sa 32) e p1) acc sf23 _ dX9_readActs_71 dX9_readActs_72 ?_ (by omega) hG2 g3
              rw [← hr1]
              unfold actG
              rw [hV, if_pos (Or.inr hv0)]
            · have hv9 : v ≤ 9 := by
                have := (nmV_pos (tb := sa 32) (e := e) (b := bl (sa 32) e p1) (lo := 0) (hi := 9) (by omega) (by rw [hV]; exact hv0)).2.1
                rw [hV] at this
                exact this
              refine C.if_geI (tgt := 73) dX9_readActs_68 (by decide) (by omega) (fun _ => ?_) (fun h => absurd h (by omega))
              have hr3 : (if psP (sa 32) e (dend (sa 32) e (bl (sa 32) e p1)) zAnd then (if acc.length = 2 then .inr (bl (sa 32) e (dend (sa 32) e (bl (sa 32) e p1))) else actF (sa 32) e n (acc ++ [v]) (wend (sa 32) e (bl (sa 32) e (dend (sa 32) e (bl (sa 32) e p1)))) false) else .inl (acc ++ [v], bl (sa 32) e (dend (sa 32) e (bl (sa 32) e p1)))) = RES := by
                rw [← hr1]
                unfold actG
                have n2 : ¬ (v ∈ acc ∨ v < 0) := fun h => h.elim hnm hv0
                rw [hV, if_neg n2]
              have hq := hP1.go (q := dend (sa 32) e (bl (sa 32) e p1)) (sa' := sa) g1 g2 hde rfl
              have hbd := bl_le (tb := sa 32) hde
              have hPs := m_passesG (d := d - 1) (by omega) (hPA (acc ++ [v]) _ _ hq) tAnd
              rw [e32] at hPs
              have e21' : actS sa s (acc ++ [v]) 21 s = (acc.length : Int) + 1 := by rw [actS_21]; simp
              refine C.aload_n dX9_readActs_73 rfl ?_
              refine C.mget hL gf_X9_13 dX9_readActs_74 rfl ?_
              refine C.ic dX9_readActs_77 ?_
              refine C.iload_n dX9_readActs_78 rfl ?_
              refine C.imulI dX9_readActs_79 ?_
              refine C.aload_n dX9_readActs_80 rfl ?_
              refine C.mget hL gf_X9_9 dX9_readActs_81 rfl ?_
              refine C.iload_n dX9_readActs_84 rfl ?_
              refine C.maldk hL dX9_readActs_85 (by decide) rfl (by decide) rfl (by omega) ?_
              refine C.iaddI dX9_readActs_86 ?_
              refine C.iload dX9_readActs_87 rfl ?_
              refine C.mastk hL (k := 3 * s + acc.length) (ovs_22 _ _ _) dX9_readActs_89 (by decide) rfl (by decide) (by omega) (by omega) ?_
              refine C.aload_n dX9_readActs_90 rfl ?_
              refine C.mget hL gf_X9_9 dX9_readActs_91 rfl ?_
              refine C.iload_n dX9_readActs_94 rfl ?_
              refine C.dup2 dX9_readActs_95 rfl rfl ?_
              refine C.maldk hL dX9_readActs_96 (by decide) rfl (by decide) rfl (by omega) ?_
              refine C.topI (b := (acc.length : Int)) e21 ?_
              refine C.ic dX9_readActs_97 ?_
              refine C.iaddI dX9_readActs_98 ?_
              refine C.mastk hL (ovs_21 _ _ _) dX9_readActs_99 (by decide) rfl (by decide) rfl (by omega) ?_
              rw [show va_up (va_up (actS sa s acc) 22 (va_up (actS sa s acc 22) (3 * s + acc.length) v)) 21 (va_up (va_up (actS sa s acc) 22 (va_up (actS sa s acc 22) (3 * s + acc.length) v) 21) s ((acc.length : Int) + 1)) = actS sa s (acc ++ [v]) from actS_snoc]
              refine C.aload_n dX9_readActs_100 rfl ?_
              refine C.lds dX9_readActs_101 (j := 19) rfl ?_
              refine C.mcall hL hPs cw_X9_passes ml_X9_143 im_X9_passes sl_X9_passes dX9_readActs_103 rfl rfl (by omega) (Nat.le_refl _) (Nat.le_refl _) (Nat.le_of_ble_eq_true rfl) rfl (fun r103 sf103 sa103 hR103 => ?_)
              obtain ⟨rfl, ⟨k1, k2, k3⟩, ha⟩ := hR103
              rw [ha]
              clear ha
              cases c1 : psP (sa 32) e (dend (sa 32) e (bl (sa 32) e p1)) zAnd with
              | false =>
                rw [c1] at k2 hr3
                refine C.if_neI (tgt := 111) dX9_readActs_106 (by decide) (by decide) (fun h => absurd rfl h) (fun _ => ?_)
                refine C.ic dX9_readActs_109 ?_
                refine C.retI rfl (by decide) dX9_readActs_110 (Nat.le_refl _) (Nat.le_refl _) ⟨_, _, ?_, rfl, rfl⟩
                rw [← hr3]
                exact ⟨rfl, ⟨hG2.tr k1, k2⟩, rfl⟩
              | true =>
                rw [c1] at k2 hr3
                simp only [if_true] at hr3 k2
                refine C.if_neI (tgt := 111) dX9_readActs_106 (by decide) (by decide) (fun _ => ?_) (fun h => absurd h (by decide))
                refine C.aload_n dX9_readActs_111 rfl ?_
                refine C.mget hL gf_X9_9 dX9_readActs_112 rfl ?_
                refine C.iload_n dX9_readActs_115 rfl ?_
                refine C.maldk hL dX9_readActs_116 (by decide) rfl (by decide) rfl (by omega) ?_
                refine C.topI (b := (acc.length : Int) + 1) e21' ?_
                refine C.ic dX9_readActs_117 ?_
                by_cases h3 : acc.length = 2
                · refine C.icmp_neI (tgt := 123) dX9_readActs_118 (by decide) (by omega) (by omega) (fun h => absurd (by omega) h) (fun _ => ?_)
                  rw [if_pos h3] at hr3
                  exact failR 121 _ (acc ++ [v]) sf103 _ dX9_readActs_121 dX9_readActs_122 hr3.symm (by simp; omega) (hG2.tr k1) k3
                · refine C.icmp_neI (tgt := 123) dX9_readActs_118 (by decide) (by omega) (by omega) (fun _ => ?_) (fun h => absurd h (by omega))
                  rw [if_neg h3] at hr3
                  refine C.goto (tgt := 2) dX9_readActs_123 (by decide) ?_
                  have hq2 := hq.go (q := wend (sa 32) e (bl (sa 32) e (dend (sa 32) e (bl (sa 32) e p1)))) (sa' := sa) k1 k2 (wend_le hbd) rfl
                  exact ih (acc ++ [v]) _ false sf103 w2 _ _ (by simp; omega) hq2 (hG2.tr k1) (fun x hx => by
                    rcases List.mem_append.mp hx with hx | hx
                    · exact hv x hx
                    · rw [List.mem_singleton.mp hx]; omega) hr3 (by omega)
          | succ m ih2 =>
            intro k hk hne
            have e21 : actS sa s acc 21 s = acc.length := actS_21
            have e22 : actS sa s acc 22 (3 * s + k) = acc.getD k 0 := actS_22 (by omega)
            have hmem : acc.getD k 0 ∈ acc := by rw [List.getD_eq_getElem?_getD, List.getElem?_eq_getElem (by omega)]; exact List.getElem_mem _
            have hvk := hv _ hmem
            refine C.iload dX9_readActs_31 rfl ?_
            refine C.aload_n dX9_readActs_33 rfl ?_
            refine C.mget hL gf_X9_9 dX9_readActs_34 rfl ?_
            refine C.iload_n dX9_readActs_37 rfl ?_
            refine C.maldk hL dX9_readActs_38 (by decide) rfl (by decide) rfl (by omega) ?_
            refine C.icmp_geI (tgt := 66) dX9_readActs_39 (by decide) (by omega) (by omega) (fun h => absurd h (by omega)) (fun _ => ?_)
            refine C.aload_n dX9_readActs_42 rfl ?_
            refine C.mget hL gf_X9_13 dX9_readActs_43 rfl ?_
            refine C.ic dX9_readActs_46 ?_
            refine C.iload_n dX9_readActs_47 rfl ?_
            refine C.imulI dX9_readActs_48 ?_
            refine C.iload dX9_readActs_49 rfl ?_
            refine C.iaddI dX9_readActs_51 ?_
            refine C.maldk hL (k := 3 * s + k) dX9_readActs_52 (by decide) rfl (by decide) (by omega) (by omega) ?_
            refine C.topI (b := acc.getD k 0) e22 ?_
            refine C.iload dX9_readActs_53 rfl ?_
            refine C.icmp_neI (tgt := 60) dX9_readActs_55 (by decide) (by omega) (by omega) (fun hne2 => ?_) (fun heq => ?_)
            · refine C.iincI dX9_readActs_60 rfl (by decide) rfl ?_
              refine C.goto (tgt := 31) dX9_readActs_63 (by decide) ?_
              refine ih2 (k + 1) (by omega) (fun i hi => ?_)
              by_cases hik : i = k
              · rw [hik]; exact hne2
              · exact hne i (by omega)
            · refine failR 58 (bl (sa 32) e p1) acc sf23 _ dX9_readActs_58 dX9_readActs_59 ?_ (by omega) hG2 g3
              rw [← hr1]
              unfold actG
              rw [hV, if_pos (Or.inl (heq ▸ hmem))]
        refine C.istore dX9_readActs_26 (by decide) rfl ?_
        refine C.ic dX9_readActs_28 ?_
        refine C.istore dX9_readActs_29 (by decide) rfl ?_
        exact inner acc.length 0 (by omega) (fun i hi => absurd hi (by omega))
      unfold actF at hres
      cases has with
      | true =>
        simp only [if_true] at hres
        refine C.iload_n dX9_readActs_2 rfl ?_
        refine C.if_neI (tgt := 17) dX9_readActs_3 (by decide) (by decide) (fun hc3 => ?_) (fun hc3 => absurd hc3 (by decide))
        exact body p sfc 1 hPD hG hres
      | false =>
        simp only [Bool.false_eq_true, if_false] at hres
        have hb := bl_le (tb := sa 32) hPD.2.2.1
        have hPs := m_passesG (d := d - 1) (by omega) (hPA acc _ _ hPD) tAct
        rw [e32] at hPs
        cases c1 : psP (sa 32) e p zAct with
        | true =>
          rw [c1] at hres hPs
          simp only [if_true] at hres hPs
          refine C.iload_n dX9_readActs_2 rfl ?_
          refine C.if_neI (tgt := 17) dX9_readActs_3 (by decide) (by decide) (fun hc3 => absurd hc3 (fun h => h rfl)) (fun hc3 => ?_)
          refine C.aload_n dX9_readActs_6 rfl ?_
          refine C.lds dX9_readActs_7 (j := 26) rfl ?_
          refine C.mcall hL (hPs) cw_X9_passes ml_X9_143 im_X9_passes sl_X9_passes dX9_readActs_9 rfl rfl (by omega) (Nat.le_refl _) (Nat.le_refl _) (Nat.le_of_ble_eq_true rfl) rfl (fun r9 sf9 sa9 hR9 => ?_)
          obtain ⟨rfl, ⟨k1, k2, k3⟩, ha⟩ := hR9
          rw [ha]
          clear ha
          refine C.if_neI (tgt := 17) dX9_readActs_12 (by decide) (by decide) (fun hc12 => ?_) (fun hc12 => absurd hc12 (by decide))
          exact body _ sf9 0 (hPD.go (sa' := sa) k1 k2 (wend_le hb) rfl) (hG.tr k1) hres
        | false =>
          rw [c1] at hres hPs
          simp only [Bool.false_eq_true, if_false] at hres hPs
          refine C.iload_n dX9_readActs_2 rfl ?_
          refine C.if_neI (tgt := 17) dX9_readActs_3 (by decide) (by decide) (fun hc3 => absurd hc3 (fun h => h rfl)) (fun hc3 => ?_)
          refine C.aload_n dX9_readActs_6 rfl ?_
          refine C.lds dX9_readActs_7 (j := 26) rfl ?_
          refine C.mcall hL (hPs) cw_X9_passes ml_X9_143 im_X9_passes sl_X9_passes dX9_readActs_9 rfl rfl (by omega) (Nat.le_refl _) (Nat.le_refl _) (Nat.le_of_ble_eq_true rfl) rfl (fun r9 sf9 sa9 hR9 => ?_)
          obtain ⟨rfl, ⟨k1, k2, k3⟩, ha⟩ := hR9
          rw [ha]
          clear ha
          refine C.if_neI (tgt := 17) dX9_readActs_12 (by decide) (by decide) (fun hc12 => absurd hc12 (fun h => h rfl)) (fun hc12 => ?_)
          exact failR 15 _ acc sf9 _ dX9_readActs_15 dX9_readActs_16 hres.symm (by omega) (hG.tr k1) k3
  have hm := main 3 [] p has sf (b2i has) none none rfl h Gf.rf (fun v hv => by cases hv) hRES (by omega)
  rw [actS_nil h0] at hm
  refine C.iload_n dX9_readActs_0 rfl ?_
  refine C.istore_n dX9_readActs_1 (by decide) rfl ?_
  exact hm
