/-- what a sentence asks for in the cases c, ys asks for too -/
def inW (ys : List Sen) (c : Int) (x : Sen) : Prop := cnS c x = true → ∀ a ∈ x.1.1, ys.any (akP c x.1.2.1 x.1.2.2.1 x.2.1 a) = true
def wiN (xs ys : List Sen) : Prop := ∀ c : Nat, c < 64 → ∀ x ∈ xs, inW ys c x
set_option maxRecDepth 20000 in
set_option maxHeartbeats 2000000 in
theorem m_isWithin {d b1 b2 : Nat} {xs ys : List Sen} {sf : SF} {sa : SA} (hd : 404 ≤ d) (hb1 : b1 + xs.length ≤ 100) (hb2 : b2 + ys.length ≤ 100) (hx : SensAt sa b1 xs) (hy : SensAt sa b2 ys) (okx : ∀ y ∈ xs, SOk y) (oky : ∀ y ∈ ys, SOk y) : MM yX9_isWithin cX9_isWithin 8 (some .boolean) d [.int (iI b1), .int (iI xs.length), .int (iI b2), .int (iI ys.length)] sf sa (fun r sf' sa' => (∃ B : Bool, r = some (.int (iI (b2i B))) ∧ (B = true ↔ wiN xs ys)) ∧ Gf sf sf' ∧ sa' = sa) := by
  refine MM.of2 (by decide +kernel) rfl (Nat.le_of_ble_eq_true rfl) (fun L g hL X C => ?_)
  have ends : (wiN xs ys) → ∀ (sfc : SF), Gf sf sfc → ∀ v5 v6 v7, X 0 0 L (ov sfc sa g) 115 [some (.ref 20), some (.int (iI b1)), some (.int (iI xs.length)), some (.int (iI b2)), some (.int (iI ys.length)), v5, v6, v7] [] := by
    intro hw sfc hg v5 v6 v7
    refine C.ic dX9_isWithin_115 ?_
    refine C.retI rfl (by first | rfl | (exact (iI_bool (by first | exact Or.inl rfl | exact Or.inr rfl | assumption)).1)) dX9_isWithin_116 (Nat.le_refl _) (Nat.le_refl _) ⟨_, _, ?_, rfl, rfl⟩
    exact ⟨⟨true, rfl, fun _ => hw, fun _ => rfl⟩, hg, rfl⟩
  have c3 : ∀ (c : Nat) (i : Nat) (x : Sen), c < 64 → xs[i]? = some x → cnS c x = true → ((∀ a ∈ x.1.1, ys.any (akP c x.1.2.1 x.1.2.2.1 x.2.1 a) = true) → ∀ sf2, Gf sf sf2 → ∀ v7 : Int32, X 0 0 L (ov sf2 sa g) 103 [some (.ref 20), some (.int (iI b1)), some (.int (iI xs.length)), some (.int (iI b2)), some (.int (iI ys.length)), some (.int (iI c)), some (.int (iI ((b1 + i : Nat) : Int))), some (.int v7)] []) → ∀ (zs done : List Int) (sfc : SF), x.1.1 = done ++ zs → (∀ a ∈ done, ys.any (akP c x.1.2.1 x.1.2.2.1 x.2.1 a) = true) → Gf sf sfc → X 0 0 L (ov sfc sa g) 38 [some (.ref 20), some (.int (iI b1)), some (.int (iI xs.length)), some (.int (iI b2)), some (.int (iI ys.length)), some (.int (iI c)), some (.int (iI ((b1 + i : Nat) : Int))), some (.int (iI done.length))] [] := by
    intro c i x hc hxi hcn hK zs
    have hil := (List.getElem?_eq_some_iff.mp hxi).1
    have hxo := okx x (List.mem_of_getElem? hxi)
    have hxA := hx i x hxi
    have k1 := hxo.1.1.1
    have k3 := hxo.1.1.2.2.1
    have k5 := hxo.1.2.1
    have k6 := hxo.1.2.2.1
    have k9 := hxo.2
    have e21 : sa 21 (b1 + i) = x.1.1.length := hxA.1.1
    have e22 := hxA.1.2.1
    have e23 : sa 23 (b1 + i) = x.1.2.1 := hxA.1.2.2.1
    have e24 : sa 24 (b1 + i) = x.1.2.2.1 := hxA.1.2.2.2.1
    have e25 : sa 25 (b1 + i) = x.2.1 := hxA.2.1
    induction zs with
    | nil =>
      intro done sfc hdn hall hg
      rw [List.append_nil] at hdn
      have hll : x.1.1.length = done.length := by rw [hdn]
      have := hK (by rw [hdn]; exact hall) sfc hg (iI done.length)
      refine C.iload dX9_isWithin_38 rfl ?_
      refine C.aload_n dX9_isWithin_40 rfl ?_
      refine C.mget hL gf_X9_9 dX9_isWithin_41 rfl ?_
      refine C.iload dX9_isWithin_44 rfl ?_
      refine C.maldk hL dX9_isWithin_46 (by decide) rfl (by decide) rfl (by omega) ?_
      refine C.topI (b := (x.1.1.length : Int)) e21 ?_
      refine C.icmp_geI (tgt := 103) dX9_isWithin_47 (by decide) (by omega) (by omega) (fun hc47 => ?_) (fun hc47 => absurd hc47 (by omega))
      exact this
    | cons a zs ih =>
      intro done sfc hdn hall hg
      have hll : x.1.1.length = done.length + (zs.length + 1) := by rw [hdn, List.length_append, List.length_cons]
      have ha : a ∈ x.1.1 := by rw [hdn]; exact List.mem_append_right _ List.mem_cons_self
      have har := k3 a ha
      have ea : sa 22 (3 * (b1 + i) + done.length) = a := by
        rw [e22 done.length (by omega), hdn, List.getD_eq_getElem?_getD, List.getElem?_append_right (Nat.le_refl _), Nat.sub_self]
        rfl
      have hM := m_asks (d := d - 1) (b := b2) (ys := ys) (cs := c) (wh := x.1.2.1) (mo := x.1.2.2.1) (dy := x.2.1) (ac := a) (sf := sfc) (by omega) hb2 ⟨by omega, by omega⟩ ⟨by omega, by omega⟩ ⟨by omega, by omega⟩ ⟨by omega, by omega⟩ ⟨by omega, by omega⟩ hy oky
      cases hres : ys.any (akP c x.1.2.1 x.1.2.2.1 x.2.1 a) with
      | true =>
        rw [hres] at hM
        have nx := fun sf2 => ih (done ++ [a]) sf2 (by rw [hdn, List.append_assoc]; rfl) (fun a' ha' => by
          rcases List.mem_append.mp ha' with h | h
          · exact hall a' h
          · rw [List.mem_singleton.mp h]; exact hres)
        simp only [List.length_append, List.length_cons, List.length_nil] at nx
        refine C.iload dX9_isWithin_38 rfl ?_
        refine C.aload_n dX9_isWithin_40 rfl ?_
        refine C.mget hL gf_X9_9 dX9_isWithin_41 rfl ?_
        refine C.iload dX9_isWithin_44 rfl ?_
        refine C.maldk hL dX9_isWithin_46 (by decide) rfl (by decide) rfl (by omega) ?_
        refine C.topI (b := (x.1.1.length : Int)) e21 ?_
        refine C.icmp_geI (tgt := 103) dX9_isWithin_47 (by decide) (by omega) (by omega) (fun hc47 => absurd hc47 (by omega)) (fun hc47 => ?_)
        refine C.aload_n dX9_isWithin_50 rfl ?_
        refine C.iload_n dX9_isWithin_51 rfl ?_
        refine C.iload dX9_isWithin_52 rfl ?_
        refine C.iload dX9_isWithin_54 rfl ?_
        refine C.aload_n dX9_isWithin_56 rfl ?_
        refine C.mget hL gf_X9_16 dX9_isWithin_57 rfl ?_
        refine C.iload dX9_isWithin_60 rfl ?_
        refine C.maldk hL dX9_isWithin_62 (by decide) rfl (by decide) rfl (by omega) ?_
        refine C.topI (b := x.1.2.1) e23 ?_
        refine C.aload_n dX9_isWithin_63 rfl ?_
        refine C.mget hL gf_X9_19 dX9_isWithin_64 rfl ?_
        refine C.iload dX9_isWithin_67 rfl ?_
        refine C.maldk hL dX9_isWithin_69 (by decide) rfl (by decide) rfl (by omega) ?_
        refine C.topI (b := x.1.2.2.1) e24 ?_
        refine C.aload_n dX9_isWithin_70 rfl ?_
        refine C.mget hL gf_X9_22 dX9_isWithin_71 rfl ?_
        refine C.iload dX9_isWithin_74 rfl ?_
        refine C.maldk hL dX9_isWithin_76 (by decide) rfl (by decide) rfl (by omega) ?_
        refine C.topI (b := x.2.1) e25 ?_
        refine C.aload_n dX9_isWithin_77 rfl ?_
        refine C.mget hL gf_X9_13 dX9_isWithin_78 rfl ?_
        refine C.ic dX9_isWithin_81 ?_
        refine C.iload dX9_isWithin_82 rfl ?_
        refine C.imulI dX9_isWithin_84 ?_
        refine C.iload dX9_isWithin_85 rfl ?_
        refine C.iaddI dX9_isWithin_87 ?_
        refine C.maldk hL (k := 3 * (b1 + i) + done.length) dX9_isWithin_88 (by decide) rfl (by decide) (by omega) (by omega) ?_
        refine C.topI (b := a) ea ?_
        refine C.mcall hL (hM) cw_X9_asks ml_X9_339 im_X9_asks sl_X9_asks dX9_isWithin_89 rfl rfl (by omega) (Nat.le_refl _) (Nat.le_refl _) (Nat.le_of_ble_eq_true rfl) rfl (fun r89 sf89 sa89 hR89 => ?_)
        obtain ⟨rfl, hg2, ha2⟩ := hR89
        rw [ha2]
        clear ha2
        refine C.if_neI (tgt := 97) dX9_isWithin_92 (by decide) (by decide) (fun hc92 => ?_) (fun hc92 => absurd hc92 (by decide))
        refine C.iincI dX9_isWithin_97 rfl (by decide) rfl ?_
        refine C.goto (tgt := 38) dX9_isWithin_100 (by decide) ?_
        exact nx _ (hg.tr hg2)
      | false =>
        rw [hres] at hM
        refine C.iload dX9_isWithin_38 rfl ?_
        refine C.aload_n dX9_isWithin_40 rfl ?_
        refine C.mget hL gf_X9_9 dX9_isWithin_41 rfl ?_
        refine C.iload dX9_isWithin_44 rfl ?_
        refine C.maldk hL dX9_isWithin_46 (by decide) rfl (by decide) rfl (by omega) ?_
        refine C.topI (b := (x.1.1.length : Int)) e21 ?_
        refine C.icmp_geI (tgt := 103) dX9_isWithin_47 (by decide) (by omega) (by omega) (fun hc47 => absurd hc47 (by omega)) (fun hc47 => ?_)
        refine C.aload_n dX9_isWithin_50 rfl ?_
        refine C.iload_n dX9_isWithin_51 rfl ?_
        refine C.iload dX9_isWithin_52 rfl ?_
        refine C.iload dX9_isWithin_54 rfl ?_
        refine C.aload_n dX9_isWithin_56 rfl ?_
        refine C.mget hL gf_X9_16 dX9_isWithin_57 rfl ?_
        refine C.iload dX9_isWithin_60 rfl ?_
        refine C.maldk hL dX9_isWithin_62 (by decide) rfl (by decide) rfl (by omega) ?_
        refine C.topI (b := x.1.2.1) e23 ?_
        refine C.aload_n dX9_isWithin_63 rfl ?_
        refine C.mget hL gf_X9_19 dX9_isWithin_64 rfl ?_
        refine C.iload dX9_isWithin_67 rfl ?_
        refine C.maldk hL dX9_isWithin_69 (by decide) rfl (by decide) rfl (by omega) ?_
        refine C.topI (b := x.1.2.2.1) e24 ?_
        refine C.aload_n dX9_isWithin_70 rfl ?_
        refine C.mget hL gf_X9_22 dX9_isWithin_71 rfl ?_
        refine C.iload dX9_isWithin_74 rfl ?_
        refine C.maldk hL dX9_isWithin_76 (by decide) rfl (by decide) rfl (by omega) ?_
        refine C.topI (b := x.2.1) e25 ?_
        refine C.aload_n dX9_isWithin_77 rfl ?_
        refine C.mget hL gf_X9_13 dX9_isWithin_78 rfl ?_
        refine C.ic dX9_isWithin_81 ?_
        refine C.iload dX9_isWithin_82 rfl ?_
        refine C.imulI dX9_isWithin_84 ?_
        refine C.iload dX9_isWithin_85 rfl ?_
        refine C.iaddI dX9_isWithin_87 ?_
        refine C.maldk hL (k := 3 * (b1 + i) + done.length) dX9_isWithin_88 (by decide) rfl (by decide) (by omega) (by omega) ?_
        refine C.topI (b := a) ea ?_
        refine C.mcall hL (hM) cw_X9_asks ml_X9_339 im_X9_asks sl_X9_asks dX9_isWithin_89 rfl rfl (by omega) (Nat.le_refl _) (Nat.le_refl _) (Nat.le_of_ble_eq_true rfl) rfl (fun r89 sf89 sa89 hR89 => ?_)
        obtain ⟨rfl, hg2, ha2⟩ := hR89
        rw [ha2]
        clear ha2
        refine C.if_neI (tgt := 97) dX9_isWithin_92 (by decide) (by decide) (fun hc92 => absurd hc92 (by decide)) (fun hc92 => ?_)
        refine C.ic dX9_isWithin_95 ?_
        refine C.retI rfl (by first | rfl | (exact (iI_bool (by first | exact Or.inl rfl | exact Or.inr rfl | assumption)).1)) dX9_isWithin_96 (Nat.le_refl _) (Nat.le_refl _) ⟨_, _, ?_, rfl, rfl⟩
        refine ⟨⟨false, rfl, fun h => absurd h (by decide), fun h => ?_⟩, hg.tr hg2, rfl⟩
        have := h c hc x (List.mem_of_getElem? hxi) hcn a ha
        rw [hres] at this
        exact this
  have c2 : ∀ (c : Nat), c < 64 → ((∀ x ∈ xs, inW ys c x) → ∀ sf2, Gf sf sf2 → ∀ (v6 : Int32) v7, X 0 0 L (ov sf2 sa g) 109 [some (.ref 20), some (.int (iI b1)), some (.int (iI xs.length)), some (.int (iI b2)), some (.int (iI ys.length)), some (.int (iI c)), some (.int v6), v7] []) → ∀ (zs done : List Sen) (sfc : SF), xs = done ++ zs → (∀ x ∈ done, inW ys c x) → Gf sf sfc → ∀ v7, X 0 0 L (ov sfc sa g) 13 [some (.ref 20), some (.int (iI b1)), some (.int (iI xs.length)), some (.int (iI b2)), some (.int (iI ys.length)), some (.int (iI c)), some (.int (iI ((b1 + done.length : Nat) : Int))), v7] [] := by
    intro c hc hK zs
    induction zs with
    | nil =>
      intro done sfc hdn hall hg v7
      rw [List.append_nil] at hdn
      have hll : xs.length = done.length := by rw [hdn]
      have := hK (by rw [hdn]; exact hall) sfc hg (iI ((b1 + done.length : Nat) : Int)) v7
      refine C.iload dX9_isWithin_13 rfl ?_
      refine C.iload_n dX9_isWithin_15 rfl ?_
      refine C.iload_n dX9_isWithin_16 rfl ?_
      refine C.iaddI dX9_isWithin_17 ?_
      refine C.icmp_geI (tgt := 109) dX9_isWithin_18 (by decide) (by omega) (by omega) (fun hc18 => ?_) (fun hc18 => absurd hc18 (by omega))
      exact this
    | cons x zs ih =>
      intro done sfc hdn hall hg v7
      have hll : xs.length = done.length + (zs.length + 1) := by rw [hdn, List.length_append, List.length_cons]
      have hxi : xs[done.length]? = some x := by
        rw [hdn, List.getElem?_append_right (Nat.le_refl _), Nat.sub_self]
        rfl
      have hM := m_counts (d := d - 1) (s := b1 + done.length) (cs := c) (sf := sfc) (by omega) (by omega) ⟨by omega, by omega⟩ (hx _ x hxi)
      have nx := fun (hw : inW ys c x) sf2 => ih (done ++ [x]) sf2 (by rw [hdn, List.append_assoc]; rfl) (fun a' ha' => by
          rcases List.mem_append.mp ha' with h | h
          · exact hall a' h
          · rw [List.mem_singleton.mp h]; exact hw)
      simp only [List.length_append, List.length_cons, List.length_nil] at nx
      cases hcn : cnS c x with
      | false =>
        rw [hcn] at hM
        refine C.iload dX9_isWithin_13 rfl ?_
        refine C.iload_n dX9_isWithin_15 rfl ?_
        refine C.iload_n dX9_isWithin_16 rfl ?_
        refine C.iaddI dX9_isWithin_17 ?_
        refine C.icmp_geI (tgt := 109) dX9_isWithin_18 (by decide) (by omega) (by omega) (fun hc18 => absurd hc18 (by omega)) (fun hc18 => ?_)
        refine C.aload_n dX9_isWithin_21 rfl ?_
        refine C.iload dX9_isWithin_22 rfl ?_
        refine C.iload dX9_isWithin_24 rfl ?_
        refine C.mcall hL (hM) cw_X9_counts ml_X9_336 im_X9_counts sl_X9_counts dX9_isWithin_26 rfl rfl (by omega) (Nat.le_refl _) (Nat.le_refl _) (Nat.le_of_ble_eq_true rfl) rfl (fun r26 sf26 sa26 hR26 => ?_)
        obtain ⟨rfl, hg2, ha2⟩ := hR26
        rw [ha2]
        clear ha2
        refine C.if_neI (tgt := 35) dX9_isWithin_29 (by decide) (by decide) (fun hc29 => absurd hc29 (by decide)) (fun hc29 => ?_)
        refine C.goto (tgt := 103) dX9_isWithin_32 (by decide) ?_
        refine C.iincI dX9_isWithin_103 rfl (by decide) rfl ?_
        refine C.goto (tgt := 13) dX9_isWithin_106 (by decide) ?_
        exact nx (fun h => absurd (hcn.symm.trans h) (by decide)) _ (hg.tr hg2) _
      | true =>
        rw [hcn] at hM
        have hk := c3 c done.length x hc hxi hcn (fun hw sf2 g2 w7 => by
          have := nx (fun _ => hw) sf2 g2 (some (.int w7))
          refine C.iincI dX9_isWithin_103 rfl (by decide) rfl ?_
          refine C.goto (tgt := 13) dX9_isWithin_106 (by decide) ?_
          exact this
          ) x.1.1 []
        refine C.iload dX9_isWithin_13 rfl ?_
        refine C.iload_n dX9_isWithin_15 rfl ?_
        refine C.iload_n dX9_isWithin_16 rfl ?_
        refine C.iaddI dX9_isWithin_17 ?_
        refine C.icmp_geI (tgt := 109) dX9_isWithin_18 (by decide) (by omega) (by omega) (fun hc18 => absurd hc18 (by omega)) (fun hc18 => ?_)
        refine C.aload_n dX9_isWithin_21 rfl ?_
        refine C.iload dX9_isWithin_22 rfl ?_
        refine C.iload dX9_isWithin_24 rfl ?_
        refine C.mcall hL (hM) cw_X9_counts ml_X9_336 im_X9_counts sl_X9_counts dX9_isWithin_26 rfl rfl (by omega) (Nat.le_refl _) (Nat.le_refl _) (Nat.le_of_ble_eq_true rfl) rfl (fun r26 sf26 sa26 hR26 => ?_)
        obtain ⟨rfl, hg2, ha2⟩ := hR26
        rw [ha2]
        clear ha2
        refine C.if_neI (tgt := 35) dX9_isWithin_29 (by decide) (by decide) (fun hc29 => ?_) (fun hc29 => absurd hc29 (by decide))
        refine C.ic dX9_isWithin_35 ?_
        refine C.istore dX9_isWithin_36 (by decide) rfl ?_
        exact hk _ rfl (fun a ha => by cases ha) (hg.tr hg2)
  have c1 : ∀ (m c : Nat) (sfc : SF), c + m = 64 → (∀ c' : Nat, c' < c → ∀ x ∈ xs, inW ys c' x) → Gf sf sfc → ∀ v6 v7, X 0 0 L (ov sfc sa g) 3 [some (.ref 20), some (.int (iI b1)), some (.int (iI xs.length)), some (.int (iI b2)), some (.int (iI ys.length)), some (.int (iI c)), v6, v7] [] := by
    intro m
    induction m with
    | zero =>
      intro c sfc hc hall hg v6 v7
      refine C.iload dX9_isWithin_3 rfl ?_
      refine C.bi dX9_isWithin_5 (by decide) ?_
      refine C.icmp_geI (tgt := 115) dX9_isWithin_7 (by decide) (by omega) (by omega) (fun hc7 => ?_) (fun hc7 => absurd hc7 (by omega))
      exact ends (fun c' h => hall c' (by omega)) sfc hg _ _ _
    | succ m ih =>
      intro c sfc hc hall hg v6 v7
      have := c2 c (by omega) (fun hw sf2 g2 w6 w7 => by
        have := ih (c + 1) sf2 (by omega) (fun c' h => by
          by_cases hcc : c' = c
          · rw [hcc]; exact hw
          · exact hall c' (by omega)) g2 (some (.int w6)) w7
        refine C.iincI dX9_isWithin_109 rfl (by decide) rfl ?_
        refine C.goto (tgt := 3) dX9_isWithin_112 (by decide) ?_
        exact this
        ) xs [] sfc rfl (fun x hx => by cases hx) hg
      refine C.iload dX9_isWithin_3 rfl ?_
      refine C.bi dX9_isWithin_5 (by decide) ?_
      refine C.icmp_geI (tgt := 115) dX9_isWithin_7 (by decide) (by omega) (by omega) (fun hc7 => absurd hc7 (by omega)) (fun hc7 => ?_)
      refine C.iload_n dX9_isWithin_10 rfl ?_
      refine C.istore dX9_isWithin_11 (by decide) rfl ?_
      exact this _
  have := c1 64 0 sf (by omega) (fun c' h => absurd h (by omega)) Gf.rf
  refine C.ic dX9_isWithin_0 ?_
  refine C.istore dX9_isWithin_1 (by decide) rfl ?_
  exact this _ _
theorem m_same {d : Nat} {xs ys : List Sen} {sf : SF} {sa : SA} (hd : 405 ≤ d) (h13 : sf 13 = 0 ∨ sf 13 = 1) (h9 : sf 9 = xs.length) (h10 : sf 10 = ys.length) (hx : SensAt sa 0 xs) (hy : SensAt sa 24 ys) (lx : xs.length ≤ 8) (ly : ys.length ≤ 24) (okx : ∀ x ∈ xs, SOk x) (oky : ∀ x ∈ ys, SOk x) : MM yX9_same cX9_same 1 (some .boolean) d [] sf sa (fun r sf' sa' => (sf 13 = 0 → r = some (.int (iI 0)) ∧ sf' = va_up sf 0 1 ∧ sa' = sa) ∧ (sf 13 = 1 → (∃ B : Bool, r = some (.int (iI (b2i B))) ∧ (B = true ↔ wiN xs ys ∧ wiN ys xs)) ∧ Gf (va_up sf 0 0) sf' ∧ sa' = sa)) := by
  rcases h13 with h13 | h13
  · have hT := m_throwsIf (d := d - 1) (sf := va_up sf 0 0) (sa := sa) (b := 1) (z := 1) (Or.inr rfl)
    rw [if_neg (by decide)] at hT
    refine MM.of2 (by decide +kernel) rfl (Nat.le_of_ble_eq_true rfl) (fun L g hL X C => ?_)
    refine C.aload_n dX9_same_0 rfl ?_
    refine C.ic dX9_same_1 ?_
    refine C.mput hL pf_X9_59 dX9_same_2 (by decide) rfl ?_
    refine C.aload_n dX9_same_5 rfl ?_
    refine C.aload_n dX9_same_6 rfl ?_
    refine C.mget hL gf_X9_219 dX9_same_7 rfl ?_
    refine C.topI (b := 0) h13 ?_
    refine C.if_neI (tgt := 17) dX9_same_10 (by decide) (by omega) (fun hc10 => absurd hc10 (fun h => h rfl)) (fun hc10 => ?_)
    refine C.ic dX9_same_13 ?_
    refine C.goto (tgt := 18) dX9_same_14 (by decide) ?_
    refine C.ic dX9_same_18 ?_
    refine C.mcall hL (hT) cw_X9_throwsIf ml_X9_209 im_X9_throwsIf sl_X9_throwsIf dX9_same_19 rfl rfl (by omega) (Nat.le_refl _) (Nat.le_refl _) (Nat.le_of_ble_eq_true rfl) rfl (fun r19 sf19 sa19 hR19 => ?_)
    obtain ⟨rfl, hs, ha⟩ := hR19
    rw [hs, ha]
    clear hs ha
    refine C.if_eqI (tgt := 27) dX9_same_22 (by decide) (by decide) (fun hc22 => absurd hc22 (by decide)) (fun hc22 => ?_)
    refine C.ic dX9_same_25 ?_
    refine C.retI rfl (by first | rfl | (exact (iI_bool (by first | exact Or.inl rfl | exact Or.inr rfl | assumption)).1)) dX9_same_26 (Nat.le_refl _) (Nat.le_refl _) ⟨_, _, ?_, rfl, rfl⟩
    refine ⟨fun _ => ⟨rfl, up00, rfl⟩, fun h => absurd (h13.symm.trans h) (by decide)⟩
  · have hT := m_throwsIf (d := d - 1) (sf := va_up sf 0 0) (sa := sa) (b := 0) (z := 1) (Or.inl rfl)
    rw [if_pos rfl] at hT
    have hM1 := m_isWithin (d := d - 1) (b1 := 0) (b2 := 24) (sf := va_up sf 0 0) (by omega) (by omega) (by omega) hx hy okx oky
    refine MM.of2 (by decide +kernel) rfl (Nat.le_of_ble_eq_true rfl) (fun L g hL X C => ?_)
    refine C.aload_n dX9_same_0 rfl ?_
    refine C.ic dX9_same_1 ?_
    refine C.mput hL pf_X9_59 dX9_same_2 (by decide) rfl ?_
    refine C.aload_n dX9_same_5 rfl ?_
    refine C.aload_n dX9_same_6 rfl ?_
    refine C.mget hL gf_X9_219 dX9_same_7 rfl ?_
    refine C.topI (b := 1) h13 ?_
    refine C.if_neI (tgt := 17) dX9_same_10 (by decide) (by omega) (fun hc10 => ?_) (fun hc10 => absurd hc10 (by decide))
    refine C.ic dX9_same_17 ?_
    refine C.ic dX9_same_18 ?_
    refine C.mcall hL (hT) cw_X9_throwsIf ml_X9_209 im_X9_throwsIf sl_X9_throwsIf dX9_same_19 rfl rfl (by omega) (Nat.le_refl _) (Nat.le_refl _) (Nat.le_of_ble_eq_true rfl) rfl (fun r19 sf19 sa19 hR19 => ?_)
    obtain ⟨rfl, hs, ha⟩ := hR19
    rw [hs, ha]
    clear hs ha
    refine C.if_eqI (tgt := 27) dX9_same_22 (by decide) (by decide) (fun hc22 => ?_) (fun hc22 => absurd hc22 (by decide))
    refine C.aload_n dX9_same_27 rfl ?_
    refine C.ic dX9_same_28 ?_
    refine C.aload_n dX9_same_29 rfl ?_
    refine C.mget hL gf_X9_216 dX9_same_30 rfl ?_
    refine C.topI (b := (xs.length : Int)) h9 ?_
    refine C.bi dX9_same_33 (by decide) ?_
    refine C.aload_n dX9_same_35 rfl ?_
    refine C.mget hL gf_X9_232 dX9_same_36 rfl ?_
    refine C.topI (b := (ys.length : Int)) h10 ?_
    refine C.mcall hL (hM1) cw_X9_isWithin ml_X9_343 im_X9_isWithin sl_X9_isWithin dX9_same_39 rfl rfl (by omega) (Nat.le_refl _) (Nat.le_refl _) (Nat.le_of_ble_eq_true rfl) rfl (fun r39 sf39 sa39 hR39 => ?_)
    obtain ⟨⟨B1, rfl, hB1⟩, hg1, ha1⟩ := hR39
    rw [ha1]
    clear ha1
    have hM2 := m_isWithin (d := d - 1) (b1 := 24) (b2 := 0) (sf := sf39) (by omega) (by omega) (by omega) hy hx oky okx
    have h9' : sf39 9 = xs.length := by rw [hg1 9 (by decide) (by decide) (by decide) (by decide) (by decide) (by decide)]; exact h9
    have h10' : sf39 10 = ys.length := by rw [hg1 10 (by decide) (by decide) (by decide) (by decide) (by decide) (by decide)]; exact h10
    refine C.if_eqI (tgt := 67) dX9_same_42 (by decide) (b2i_r3 _) (fun hc42 => ?_) (fun hc42 => ?_)
    · refine C.ic dX9_same_67 ?_
      refine C.retI rfl (by first | rfl | (exact (iI_bool (by first | exact Or.inl rfl | exact Or.inr rfl | assumption)).1)) dX9_same_68 (Nat.le_refl _) (Nat.le_refl _) ⟨_, _, ?_, rfl, rfl⟩
      refine ⟨fun h => absurd (h13.symm.trans h) (by decide), fun _ => ?_⟩
      first | exact ⟨⟨false, rfl, fun h => absurd h (by decide), fun h => absurd (hB2.mpr h.2) (by rw [b2i_f hc60]; decide)⟩, hg1.tr hg2, rfl⟩ | exact ⟨⟨true, rfl, fun _ => ⟨hB1.mp (b2i_t hc42), hB2.mp (b2i_t hc60)⟩, fun _ => rfl⟩, hg1.tr hg2, rfl⟩ | exact ⟨⟨false, rfl, fun h => absurd h (by decide), fun h => absurd (hB1.mpr h.1) (by rw [b2i_f hc42]; decide)⟩, hg1, rfl⟩
    · refine C.aload_n dX9_same_45 rfl ?_
      refine C.bi dX9_same_46 (by decide) ?_
      refine C.aload_n dX9_same_48 rfl ?_
      refine C.mget hL gf_X9_232 dX9_same_49 rfl ?_
      refine C.topI (b := (ys.length : Int)) h10' ?_
      refine C.ic dX9_same_52 ?_
      refine C.aload_n dX9_same_53 rfl ?_
      refine C.mget hL gf_X9_216 dX9_same_54 rfl ?_
      refine C.topI (b := (xs.length : Int)) h9' ?_
      refine C.mcall hL (hM2) cw_X9_isWithin ml_X9_343 im_X9_isWithin sl_X9_isWithin dX9_same_57 rfl rfl (by omega) (Nat.le_refl _) (Nat.le_refl _) (Nat.le_of_ble_eq_true rfl) rfl (fun r57 sf57 sa57 hR57 => ?_)
      obtain ⟨⟨B2, rfl, hB2⟩, hg2, ha2⟩ := hR57
      rw [ha2]
      clear ha2
      refine C.if_eqI (tgt := 67) dX9_same_60 (by decide) (b2i_r3 _) (fun hc60 => ?_) (fun hc60 => ?_)
      · refine C.ic dX9_same_67 ?_
        refine C.retI rfl (by first | rfl | (exact (iI_bool (by first | exact Or.inl rfl | exact Or.inr rfl | assumption)).1)) dX9_same_68 (Nat.le_refl _) (Nat.le_refl _) ⟨_, _, ?_, rfl, rfl⟩
        refine ⟨fun h => absurd (h13.symm.trans h) (by decide), fun _ => ?_⟩
        first | exact ⟨⟨false, rfl, fun h => absurd h (by decide), fun h => absurd (hB2.mpr h.2) (by rw [b2i_f hc60]; decide)⟩, hg1.tr hg2, rfl⟩ | exact ⟨⟨true, rfl, fun _ => ⟨hB1.mp (b2i_t hc42), hB2.mp (b2i_t hc60)⟩, fun _ => rfl⟩, hg1.tr hg2, rfl⟩ | exact ⟨⟨false, rfl, fun h => absurd h (by decide), fun h => absurd (hB1.mpr h.1) (by rw [b2i_f hc42]; decide)⟩, hg1, rfl⟩
      · refine C.ic dX9_same_63 ?_
        refine C.goto (tgt := 68) dX9_same_64 (by decide) ?_
        refine C.retI rfl (by first | rfl | (exact (iI_bool (by first | exact Or.inl rfl | exact Or.inr rfl | assumption)).1)) dX9_same_68 (Nat.le_refl _) (Nat.le_refl _) ⟨_, _, ?_, rfl, rfl⟩
        refine ⟨fun h => absurd (h13.symm.trans h) (by decide), fun _ => ?_⟩
        first | exact ⟨⟨false, rfl, fun h => absurd h (by decide), fun h => absurd (hB2.mpr h.2) (by rw [b2i_f hc60]; decide)⟩, hg1.tr hg2, rfl⟩ | exact ⟨⟨true, rfl, fun _ => ⟨hB1.mp (b2i_t hc42), hB2.mp (b2i_t hc60)⟩, fun _ => rfl⟩, hg1.tr hg2, rfl⟩ | exact ⟨⟨false, rfl, fun h => absurd h (by decide), fun h => absurd (hB1.mpr h.1) (by rw [b2i_f hc42]; decide)⟩, hg1, rfl⟩
