/-! the class's sentences -/
section OROWS
variable {own : String} {cc : ByteArray} {nL : Nat} {rt : Option FieldType} {ini : Bool} {d mc ms : Nat} {Po : AT} {X : XT} {ce sl pc : Nat} {L : List Nat} {f : Nat → AC} {lv : List (Option Value)} {st : List Value}
theorem Cx.aloadO (C : Cx own cc nL rt ini d mc ms Po X) {j : Nat} {o : Option Nat} (dg : decode cc pc = .ok (.aload j, 2)) (hv : lv[j]? = some (some (va_rf o))) (kk : X ce sl L f (pc + 2) lv (va_rf o :: st)) : X ce sl L f pc lv st := by
  cases o with
  | none => exact C.aloadN dg hv kk
  | some q => exact C.aload dg hv kk
theorem Cx.aload_nO (C : Cx own cc nL rt ini d mc ms Po X) {j : Fin 4} {o : Option Nat} (dg : decode cc pc = .ok (.aload_n j, 1)) (hv : lv[(j : Nat)]? = some (some (va_rf o))) (kk : X ce sl L f (pc + 1) lv (va_rf o :: st)) : X ce sl L f pc lv st := by
  cases o with
  | none => exact C.aload_nN dg hv kk
  | some q => exact C.aload_n dg hv kk
theorem Cx.astore_nO (C : Cx own cc nL rt ini d mc ms Po X) {j : Fin 4} {o : Option Nat} (dg : decode cc pc = .ok (.astore_n j, 1)) (hn : ((j : Nat) < nL)) (hw : nw lv (j : Nat) = true) (kk : X ce sl L f (pc + 1) (lv.set (j : Nat) (some (va_rf o))) st) : X ce sl L f pc lv (va_rf o :: st) := by
  cases o with
  | none => exact C.astore_nN dg hn hw kk
  | some q => exact C.astore_n dg hn hw kk
end OROWS
theorem rf_cat (o : Option Nat) : (va_rf o).category = 1 := by cases o <;> rfl
theorem rf_nar (o : Option Nat) (s : String) : narrow (.object s) (va_rf o) = va_rf o := by cases o <;> rfl
theorem rf_fit (o : Option Nat) (s : String) : fits (.object s) (va_rf o) = true := by cases o <;> rfl
/-- a sentence's fields -/
def SO (x : Sen) (e : Nat) (w u : Option Nat) : List Value := [.int (iI x.1.2.1), .int (iI x.1.2.2.1), .int (iI x.2.1), .int (iI x.1.2.2.2), .ref e, va_rf w, va_rf u]
abbrev aI (n : Nat) (g : Nat → Int) : AC := .inl (1, n, .inl (fun i => iI (g i)))
/-- a row of acts -/
def RwI (L : List Nat) (f : Nat → AC) (e : Nat) (xs : List Int) : Prop := e ∈ L ∧ 2000 ≤ e ∧ ∃ g, f e = aI xs.length g ∧ ∀ i v, xs[i]? = some v → g i = v
theorem RwI.keep {L L' : List Nat} {f f' : Nat → AC} {e : Nat} {xs : List Int} (h : RwI L f e xs) (hF : Fp L f L' f') : RwI L' f' e xs := by
  obtain ⟨h1, h2, g, h3, h4⟩ := h
  refine ⟨hF.1 e h1, h2, g, ?_, h4⟩
  rw [hF.2 e h1 h2 (fun n g e => by rw [h3] at e; cases e)]
  exact h3
/-- the thing k is the sentence x, its conditions less than D deep -/
def SAt (L : List Nat) (f : Nat → AC) (D k : Nat) (x : Sen) : Prop := (k ∈ L ∧ 2000 ≤ k) ∧ ∃ (e : Nat) (w u : Option Nat), f k = .inr (6, SO x e w u) ∧ RwI L f e x.1.1 ∧ OAt L f D w x.2.2.1 ∧ OAt L f D u x.2.2.2
theorem SAt.keep {L L' : List Nat} {f f' : Nat → AC} {D k : Nat} {x : Sen} (h : SAt L f D k x) (hF : Fp L f L' f') : SAt L' f' D k x := by
  obtain ⟨⟨h1, h2⟩, e, w, u, h3, h4, h5, h6⟩ := h
  refine ⟨⟨hF.1 k h1, h2⟩, e, w, u, ?_, h4.keep hF, h5.keep hF, h6.keep hF⟩
  rw [hF.2 k h1 h2 (fun n g e => by rw [h3] at e; cases e)]
  exact h3
theorem OAt.mono {L : List Nat} {f : Nat → AC} {D D' : Nat} {o : Option Nat} {w : Option TT} (h : OAt L f D o w) (hD : D ≤ D') : OAt L f D' o w := by
  cases o with
  | none =>
    cases w with
    | none => trivial
    | some t => exact h.elim
  | some q =>
    cases w with
    | none => exact h.elim
    | some t => exact ⟨CAt.mono D hD h.1, h.2⟩
theorem SAt.mono {L : List Nat} {f : Nat → AC} {D D' k : Nat} {x : Sen} (h : SAt L f D k x) (hD : D ≤ D') : SAt L f D' k x := by
  obtain ⟨h1, e, w, u, h3, h4, h5, h6⟩ := h
  exact ⟨h1, e, w, u, h3, h4, h5.mono hD, h6.mono hD⟩
/-- a new sentence is the answer, all that lived is as it was -/
def NwS (L : List Nat) (f : Nat → AC) (D : Nat) (x : Sen) : AT := fun r L' f' => ∃ k, r = some (.ref k) ∧ SAt L' f' D k x ∧ Fo L f L' f'
def fsS : List Value := [.int 0, .int 0, .int 0, .int 0, .null, .null, .null]
theorem s_init {d k e : Nat} {w u : Option Nat} {a b c z : Int} {L : List Nat} {f : Nat → AC} (hd : 1 ≤ d) (hz : z = 0 ∨ z = 1) (hk : k ∈ L) (hf : f k = .inr (6, fsS)) : AM yX3_init cX3_init 8 none d 0 0 [.ref k, .int (iI a), .int (iI b), .int (iI c), .int (iI z), .ref e, va_rf w, va_rf u] L f (SP none L (va_up f k (.inr (6, [.int (iI a), .int (iI b), .int (iI c), .int (iI z), .ref e, va_rf w, va_rf u])))) := by
  refine AM.of (by decide +kernel) (fun v hv => by simp only [List.mem_cons, List.not_mem_nil, or_false] at hv; rcases hv with rfl | rfl | rfl | rfl | rfl | rfl | rfl | rfl <;> first | rfl | exact rf_cat _) (Nat.le_of_ble_eq_true rfl) true (fun _ => rfl) (fun X C => ?_)
  refine C.aload_n dX3_init_0 rfl ?_
  refine C.oinit dX3_init_1 (om_wsL_law0_r16 _ (List.mem_of_getElem? (i := 15) rfl)) (by omega) (Nat.le_of_ble_eq_true rfl) ?_
  refine C.aload_n dX3_init_4 rfl ?_
  refine C.iload_n dX3_init_5 rfl ?_
  refine C.putF pf_X3_9 dX3_init_6 hk hf rfl rfl (Nat.le_of_ble_eq_true rfl) ?_
  refine C.aload_n dX3_init_9 rfl ?_
  refine C.iload_n dX3_init_10 rfl ?_
  refine C.putF pf_X3_15 dX3_init_11 hk (va_up_self _ _ _) rfl rfl (Nat.le_of_ble_eq_true rfl) ?_
  rw [up_up]
  refine C.aload_n dX3_init_14 rfl ?_
  refine C.iload_n dX3_init_15 rfl ?_
  refine C.putF pf_X3_18 dX3_init_16 hk (va_up_self _ _ _) rfl rfl (Nat.le_of_ble_eq_true rfl) ?_
  rw [up_up]
  refine C.aload_n dX3_init_19 rfl ?_
  refine C.iload dX3_init_20 rfl ?_
  refine C.putF pf_X3_21 dX3_init_22 hk (va_up_self _ _ _) (iI_bool hz).1 (iI_bool hz).2.1 (Nat.le_of_ble_eq_true rfl) ?_
  rw [up_up]
  refine C.aload_n dX3_init_25 rfl ?_
  refine C.aload dX3_init_26 rfl ?_
  refine C.putF pf_X3_25 dX3_init_28 hk (va_up_self _ _ _) rfl rfl (Nat.le_of_ble_eq_true rfl) ?_
  rw [up_up]
  refine C.aload_n dX3_init_31 rfl ?_
  refine C.aloadO dX3_init_32 rfl ?_
  refine C.putF pf_X3_29 dX3_init_34 hk (va_up_self _ _ _) (rf_nar _ _) (rf_fit _ _) (Nat.le_of_ble_eq_true rfl) ?_
  rw [up_up]
  refine C.aload_n dX3_init_37 rfl ?_
  refine C.aloadO dX3_init_38 rfl ?_
  refine C.putF pf_X3_33 dX3_init_40 hk (va_up_self _ _ _) (rf_nar _ _) (rf_fit _ _) (Nat.le_of_ble_eq_true rfl) ?_
  rw [up_up]
  refine C.vret rfl dX3_init_43 (Nat.le_refl _) (Nat.le_refl _) ⟨rfl, rfl, rfl⟩
  skip
theorem b01 {z : Int} (h : z = 0 ∨ z = 1) : -2147483648 ≤ z ∧ z < 2147483648 := by omega
section SEN
variable {d D k : Nat} {x : Sen} {L : List Nat} {f : Nat → AC}
theorem s_withActs {e : Nat} {xs : List Int} (hd : 2 ≤ d) (h : SAt L f D k x) (hx : SOk x) (he : RwI L f e xs) : AM yX3_withActs cX3_withActs 2 (some (.object "PlainWords$Sentence")) d 1 7 [.ref k, .ref e] L f (NwS L f D ((xs, x.1.2), x.2)) := by
  obtain ⟨⟨hk, hk2⟩, e0, w, u, hf, -, hw, hu⟩ := h
  have hz := hx.1.2.2.2.1
  refine AM.of (by decide +kernel) (by simp [Value.category]) (Nat.le_of_ble_eq_true rfl) false (fun h => by cases h) (fun X C => ?_)
  refine C.new nf_X3_10 dX3_withActs_0 (Nat.le_refl _) (Nat.le_refl _) (fun q hq2 hqL => ?_)
  have hkq : k ≠ q := fun h => hqL (h ▸ hk)
  have hfk : ∀ y, va_up f q y k = .inr (6, SO x e0 w u) := fun y => (va_up_ne _ _ hkq).trans hf
  have hkL : k ∈ L ++ [q] := List.mem_append_left _ hk
  refine C.dup dX3_withActs_3 rfl ?_
  refine C.aload_n dX3_withActs_4 rfl ?_
  refine C.getf gf_X3_9 dX3_withActs_5 hkL (hfk _) rfl ?_
  refine C.aload_n dX3_withActs_8 rfl ?_
  refine C.getf gf_X3_15 dX3_withActs_9 hkL (hfk _) rfl ?_
  refine C.aload_n dX3_withActs_12 rfl ?_
  refine C.getf gf_X3_18 dX3_withActs_13 hkL (hfk _) rfl ?_
  refine C.aload_n dX3_withActs_16 rfl ?_
  refine C.getf gf_X3_21 dX3_withActs_17 hkL (hfk _) rfl ?_
  refine C.aload_n dX3_withActs_20 rfl ?_
  refine C.aload_n dX3_withActs_21 rfl ?_
  refine C.getf gf_X3_29 dX3_withActs_22 hkL (hfk _) rfl ?_
  refine C.aload_n dX3_withActs_25 rfl ?_
  refine C.getf gf_X3_33 dX3_withActs_26 hkL (hfk _) rfl ?_
  skip
  refine C.callI (s_init (d := d - 1) (by omega) hz (List.mem_append_right _ List.mem_cons_self) (va_up_self _ _ _)) cw_X3_init ml_X3_36 im_X3_init rfl dX3_withActs_29 rfl (by omega) (Nat.le_refl _) (Nat.le_refl _) (Nat.le_of_ble_eq_true rfl) rfl (fun r L9 f9 h9 => ?_)
  obtain ⟨rfl, rfl, rfl⟩ := h9
  rw [up_up]
  have hF : ∀ y, Fo L f (L ++ [q]) (va_up f q y) := fun y => Fo.new hqL
  exact C.aret rfl (Or.inl ⟨_, rfl⟩) dX3_withActs_32 (Nat.le_refl _) (Nat.le_refl _) ⟨q, rfl, ⟨⟨List.mem_append_right _ List.mem_cons_self, hq2⟩, e, w, u, va_up_self _ _ _, he.keep (hF _).p, hw.keep (hF _).p, hu.keep (hF _).p⟩, hF _⟩
theorem s_turned (hd : 2 ≤ d) (h : SAt L f D k x) : AM yX3_turned cX3_turned 1 (some (.object "PlainWords$Sentence")) d 1 7 [.ref k] L f (NwS L f D (trn x)) := by
  obtain ⟨⟨hk, hk2⟩, e0, w, u, hf, he, hw, hu⟩ := h
  refine AM.of (by decide +kernel) (by simp [Value.category]) (Nat.le_of_ble_eq_true rfl) false (fun h => by cases h) (fun X C => ?_)
  refine C.new nf_X3_10 dX3_turned_0 (Nat.le_refl _) (Nat.le_refl _) (fun q hq2 hqL => ?_)
  have hkq : k ≠ q := fun h => hqL (h ▸ hk)
  have hfk : ∀ y, va_up f q y k = .inr (6, SO x e0 w u) := fun y => (va_up_ne _ _ hkq).trans hf
  have hkL : k ∈ L ++ [q] := List.mem_append_left _ hk
  refine C.dup dX3_turned_3 rfl ?_
  refine C.aload_n dX3_turned_4 rfl ?_
  refine C.getf gf_X3_9 dX3_turned_5 hkL (hfk _) rfl ?_
  refine C.aload_n dX3_turned_8 rfl ?_
  refine C.getf gf_X3_15 dX3_turned_9 hkL (hfk _) rfl ?_
  refine C.aload_n dX3_turned_12 rfl ?_
  refine C.getf gf_X3_18 dX3_turned_13 hkL (hfk _) rfl ?_
  refine C.ic dX3_turned_16 ?_
  refine C.aload_n dX3_turned_17 rfl ?_
  refine C.getf gf_X3_25 dX3_turned_18 hkL (hfk _) rfl ?_
  refine C.aload_n dX3_turned_21 rfl ?_
  refine C.getf gf_X3_29 dX3_turned_22 hkL (hfk _) rfl ?_
  refine C.aload_n dX3_turned_25 rfl ?_
  refine C.getf gf_X3_33 dX3_turned_26 hkL (hfk _) rfl ?_
  skip
  refine C.callI (s_init (d := d - 1) (z := 0) (by omega) (Or.inl rfl) (List.mem_append_right _ List.mem_cons_self) (va_up_self _ _ _)) cw_X3_init ml_X3_36 im_X3_init rfl dX3_turned_29 rfl (by omega) (Nat.le_refl _) (Nat.le_refl _) (Nat.le_of_ble_eq_true rfl) rfl (fun r L9 f9 h9 => ?_)
  obtain ⟨rfl, rfl, rfl⟩ := h9
  rw [up_up]
  have hF : ∀ y, Fo L f (L ++ [q]) (va_up f q y) := fun y => Fo.new hqL
  exact C.aret rfl (Or.inl ⟨_, rfl⟩) dX3_turned_32 (Nat.le_refl _) (Nat.le_refl _) ⟨q, rfl, ⟨⟨List.mem_append_right _ List.mem_cons_self, hq2⟩, e0, w, u, va_up_self _ _ _, he.keep (hF _).p, hw.keep (hF _).p, hu.keep (hF _).p⟩, hF _⟩
theorem s_canTurn (h : SAt L f D k x) (hx : SOk x) : AM yX3_canTurn cX3_canTurn 1 (some .boolean) d 0 0 [.ref k] L f (SP (some (.int (iI (b2i (canT x))))) L f) := by
  obtain ⟨⟨hk, hk2⟩, e0, w, u, hf, he, hw, hu⟩ := h
  have hz := hx.1.2.2.2.1
  have hw := hx.1.2.1
  refine AM.of (by decide +kernel) (by simp [Value.category]) (Nat.le_of_ble_eq_true rfl) false (fun h => by cases h) (fun X C => ?_)
  refine C.aload_n dX3_canTurn_0 rfl ?_
  refine C.getf gf_X3_21 dX3_canTurn_1 hk hf rfl ?_
  refine C.if_eqI (tgt := 19) dX3_canTurn_4 (by decide) (by omega) (fun hc4 => ?_) (fun hc4 => ?_)
  · refine C.ic dX3_canTurn_19 ?_
    refine C.topI (b := b2i (canT x)) (by unfold canT b2i; split <;> simp_all) ?_
    refine C.retI rfl (iI_bool (b2i_01 _)).1 dX3_canTurn_20 (Nat.le_refl _) (Nat.le_refl _) ⟨rfl, rfl, rfl⟩
    skip
  · refine C.aload_n dX3_canTurn_7 rfl ?_
    refine C.getf gf_X3_9 dX3_canTurn_8 hk hf rfl ?_
    refine C.ic dX3_canTurn_11 ?_
    refine C.icmp_eqI (tgt := 19) dX3_canTurn_12 (by decide) (by omega) (by omega) (fun hc12 => ?_) (fun hc12 => ?_)
    · refine C.ic dX3_canTurn_19 ?_
      refine C.topI (b := b2i (canT x)) (by unfold canT b2i; split <;> simp_all) ?_
      refine C.retI rfl (iI_bool (b2i_01 _)).1 dX3_canTurn_20 (Nat.le_refl _) (Nat.le_refl _) ⟨rfl, rfl, rfl⟩
      skip
    · refine C.ic dX3_canTurn_15 ?_
      refine C.goto (tgt := 20) dX3_canTurn_16 (by decide) ?_
      refine C.topI (b := b2i (canT x)) (by unfold canT b2i; split <;> simp_all) ?_
      refine C.retI rfl (iI_bool (b2i_01 _)).1 dX3_canTurn_20 (Nat.le_refl _) (Nat.le_refl _) ⟨rfl, rfl, rfl⟩
      skip
end SEN
