/-- the places from z on, by 'next' -/
def chn (ne : Nat → Int) : Int → List Nat → Prop
  | z, [] => z = -1
  | z, k :: ks => z = k ∧ chn ne (ne k) ks
theorem chn_congr {ne ne' : Nat → Int} : ∀ (ks : List Nat) (z : Int), (∀ k ∈ ks, ne' k = ne k) → chn ne z ks → chn ne' z ks
  | [], _, _, h => h
  | k :: ks, z, he, h => ⟨h.1, by rw [he k List.mem_cons_self]; exact chn_congr ks _ (fun q hq => he q (List.mem_cons_of_mem _ hq)) h.2⟩
/-- 'next' and 'first' behind puts(into, one), where 'into' had the places ks -/
def ptS (sa : SA) (ks : List Nat) (into one : Nat) : SA := match ks with
  | [] => va_up (va_up sa 31 (va_up (sa 31) one (-1))) 30 (va_up (sa 30) into one)
  | k :: ks => va_up sa 31 (va_up (va_up (sa 31) one (-1)) ((k :: ks).getLast (List.cons_ne_nil _ _)) one)
set_option maxRecDepth 20000 in
theorem m_puts {d : Nat} {sf : SF} {sa : SA} {into one : Nat} {ks : List Nat} (hi : into < 1400) (ho : one < 1400) (hk : ∀ k ∈ ks, k < 1400) (hno : one ∉ ks) (hc : chn (sa 31) (sa 30 into) ks) : MM yX9_puts cX9_puts 4 none d [.int (iI into), .int (iI one)] sf sa (fun r sf' sa' => r = none ∧ sf' = sf ∧ sa' = ptS sa ks into one) := by
  refine MM.of2 (by decide +kernel) rfl (Nat.le_of_ble_eq_true rfl) (fun L g hL X C => ?_)
  cases ks with
  | nil =>
    have h0 : sa 30 into = -1 := hc
    refine C.aload_n dX9_puts_0 rfl ?_
    refine C.mget hL gf_X9_42 dX9_puts_1 rfl ?_
    refine C.iload_n dX9_puts_4 rfl ?_
    refine C.ic dX9_puts_5 ?_
    refine C.mast hL (ovs_31 _ _ _) dX9_puts_6 (by decide) rfl (by decide) (by omega) ?_
    refine C.aload_n dX9_puts_7 rfl ?_
    refine C.mget hL gf_X9_39 dX9_puts_8 rfl ?_
    refine C.iload_n dX9_puts_11 rfl ?_
    refine C.mald hL dX9_puts_12 (by decide) rfl (by decide) (by omega) ?_
    refine C.topI (b := -1) h0 ?_
    refine C.if_geI (tgt := 24) dX9_puts_13 (by decide) (by omega) (fun hc13 => absurd hc13 (by omega)) (fun hc13 => ?_)
    refine C.aload_n dX9_puts_16 rfl ?_
    refine C.mget hL gf_X9_39 dX9_puts_17 rfl ?_
    refine C.iload_n dX9_puts_20 rfl ?_
    refine C.iload_n dX9_puts_21 rfl ?_
    refine C.mast hL (ovs_30 _ _ _) dX9_puts_22 (by decide) rfl (by decide) (by omega) ?_
    refine C.vret rfl dX9_puts_23 (Nat.le_refl _) (Nat.le_refl _) ⟨_, _, ?_, rfl, rfl⟩
    exact ⟨rfl, rfl, rfl⟩
  | cons k0 ks0 =>
    obtain ⟨h0, hc⟩ := hc
    have hk0 : k0 < 1400 := hk k0 List.mem_cons_self
    have loop : ∀ (rest : List Nat) (k : Nat), k < 1400 → (∀ q ∈ rest, q < 1400) → chn (va_up (sa 31) one (-1)) (va_up (sa 31) one (-1) k) rest → (k :: rest).getLast (List.cons_ne_nil _ _) = (k0 :: ks0).getLast (List.cons_ne_nil _ _) → X 0 0 L (ov sf (va_up sa 31 (va_up (sa 31) one (-1))) g) 31 [some (.ref 20), some (.int (iI into)), some (.int (iI one)), some (.int (iI k))] [] := by
      intro rest
      induction rest with
      | nil =>
        intro k hk1 _ hch hlast
        have e1 : va_up sa 31 (va_up (sa 31) one (-1)) 31 ((k : Nat) : Int).toNat = -1 := hch
        refine C.aload_n dX9_puts_31 rfl ?_
        refine C.mget hL gf_X9_42 dX9_puts_32 rfl ?_
        refine C.iload_n dX9_puts_35 rfl ?_
        refine C.mald hL dX9_puts_36 (by decide) rfl (by decide) (by omega) ?_
        refine C.topI (b := -1) e1 ?_
        refine C.if_ltI (tgt := 50) dX9_puts_37 (by decide) (by omega) (fun hc37 => ?_) (fun hc37 => absurd hc37 (by omega))
        refine C.aload_n dX9_puts_50 rfl ?_
        refine C.mget hL gf_X9_42 dX9_puts_51 rfl ?_
        refine C.iload_n dX9_puts_54 rfl ?_
        refine C.iload_n dX9_puts_55 rfl ?_
        refine C.mast hL (ovs_31 _ _ _) dX9_puts_56 (by decide) rfl (by decide) (by omega) ?_
        refine C.vret rfl dX9_puts_57 (Nat.le_refl _) (Nat.le_refl _) ⟨_, _, ?_, rfl, rfl⟩
        refine ⟨rfl, rfl, ?_⟩
        show va_up _ 31 (va_up (va_up sa 31 (va_up (sa 31) one (-1)) 31) k one) = va_up sa 31 (va_up (va_up (sa 31) one (-1)) _ one)
        rw [← hlast, va_up_self]
        exact bx_uu _ _ _ _
      | cons k2 rest ih =>
        intro k hk1 hr hch hlast
        have e1 : va_up sa 31 (va_up (sa 31) one (-1)) 31 ((k : Nat) : Int).toNat = k2 := hch.1
        have hk2 : k2 < 1400 := hr k2 List.mem_cons_self
        refine C.aload_n dX9_puts_31 rfl ?_
        refine C.mget hL gf_X9_42 dX9_puts_32 rfl ?_
        refine C.iload_n dX9_puts_35 rfl ?_
        refine C.mald hL dX9_puts_36 (by decide) rfl (by decide) (by omega) ?_
        refine C.topI (b := (k2 : Int)) e1 ?_
        refine C.if_ltI (tgt := 50) dX9_puts_37 (by decide) (by omega) (fun hc37 => absurd hc37 (by omega)) (fun hc37 => ?_)
        refine C.aload_n dX9_puts_40 rfl ?_
        refine C.mget hL gf_X9_42 dX9_puts_41 rfl ?_
        refine C.iload_n dX9_puts_44 rfl ?_
        refine C.mald hL dX9_puts_45 (by decide) rfl (by decide) (by omega) ?_
        refine C.topI (b := (k2 : Int)) e1 ?_
        refine C.istore_n dX9_puts_46 (by decide) rfl ?_
        refine C.goto (tgt := 31) dX9_puts_47 (by decide) ?_
        exact ih k2 hk2 (fun q hq => hr q (List.mem_cons_of_mem _ hq)) hch.2 (by rw [← hlast]; rfl)
    have e2 : va_up sa 31 (va_up (sa 31) one (-1)) 30 ((into : Nat) : Int).toNat = k0 := h0
    refine C.aload_n dX9_puts_0 rfl ?_
    refine C.mget hL gf_X9_42 dX9_puts_1 rfl ?_
    refine C.iload_n dX9_puts_4 rfl ?_
    refine C.ic dX9_puts_5 ?_
    refine C.mast hL (ovs_31 _ _ _) dX9_puts_6 (by decide) rfl (by decide) (by omega) ?_
    refine C.aload_n dX9_puts_7 rfl ?_
    refine C.mget hL gf_X9_39 dX9_puts_8 rfl ?_
    refine C.iload_n dX9_puts_11 rfl ?_
    refine C.mald hL dX9_puts_12 (by decide) rfl (by decide) (by omega) ?_
    refine C.topI (b := (k0 : Int)) e2 ?_
    refine C.if_geI (tgt := 24) dX9_puts_13 (by decide) (by omega) (fun hc13 => ?_) (fun hc13 => absurd hc13 (by omega))
    refine C.aload_n dX9_puts_24 rfl ?_
    refine C.mget hL gf_X9_39 dX9_puts_25 rfl ?_
    refine C.iload_n dX9_puts_28 rfl ?_
    refine C.mald hL dX9_puts_29 (by decide) rfl (by decide) (by omega) ?_
    refine C.topI (b := (k0 : Int)) e2 ?_
    refine C.istore_n dX9_puts_30 (by decide) rfl ?_
    refine loop ks0 k0 hk0 (fun q hq => hk q (List.mem_cons_of_mem _ hq)) ?_ rfl
    have hne : ∀ q ∈ k0 :: ks0, va_up (sa 31) one (-1) q = sa 31 q := fun q hq => va_up_ne _ _ (fun e => hno (e ▸ hq))
    rw [hne k0 List.mem_cons_self]
    exact chn_congr ks0 _ (fun q hq => hne q (List.mem_cons_of_mem _ hq)) hc
