section ROWS3
variable {own : String} {cc : ByteArray} {nL : Nat} {rt : Option FieldType} {ini : Bool} {d mc ms : Nat} {Po : AT} {X : XT} {ce sl pc : Nat} {L : List Nat} {f : Nat → AC} {lv : List (Option Value)} {st : List Value}
theorem cA_eq {s : State} {D : va_G} {cl : List vw_C} {cy : Nat → ClassId} {cA : ClassId} {ty : FieldType} {t : Nat} (hK : va_K D cl (tyl cy ++ [(cA, ty)]) s) (ht : (tyl cy)[t]? = some (cy t, ty)) : cA = cy t := by
  have hl : t < (tyl cy).length := (List.getElem?_eq_some_iff.mp ht).1
  have h1 := (hK.2 (tyl cy).length (cA, ty) (by rw [List.getElem?_append_right (Nat.le_refl _), Nat.sub_self]; rfl)).2
  have h2 := (hK.2 t (cy t, ty) (by rw [List.getElem?_append_left hl]; exact ht)).2
  simp only [] at h1 h2
  cases ty with
  | object C =>
    obtain ⟨kA, comp, -, -, -, a4⟩ := h1
    obtain ⟨kA', comp', -, -, -, b4⟩ := h2
    exact Option.some.inj (a4.symm.trans b4)
  | _ => exact Option.some.inj (h1.symm.trans h2)
theorem Cx.newI (C : Cx own cc nL rt ini d mc ms Po X) {atype : ArrayType} {ty : FieldType} {t N : Nat} {z : Int} (hty : newarray.typeOf atype = ty) (ht : ∀ cy : Nat → ClassId, (tyl cy)[t]? = some (cy t, ty)) (hdef : defaultValue ty = .int 0) (hcb : componentBytes ty ≤ 8) (w : Cond.arrayClass ty ∈ Om) (hz : z = N) (hN : N ≤ 100000) (dg : decode cc pc = .ok (.newarray atype, 2)) (h1 : ce + 1 ≤ mc) (h2 : sl + N ≤ ms)
    (kk : ∀ k, 2000 ≤ k → k ∉ L → X (ce + 1) (sl + N) (L ++ [k]) (va_up f k (.inl (t, N, .inl (fun _ => iI 0)))) (pc + 2) lv (.ref k :: st)) : X ce sl L f pc lv (.int (iI z) :: st) := by
  obtain ⟨p, l, e, s, m, args, below, meth, c, dC, dI, cy, ad, A, Q, w0, ⟨hx, hb, hml, hown, hts⟩, hin0, hK, hA, hE, had, hret, rfl⟩ := C
  intro H locs ls hP hD hS hl
  subst hty
  refine va_newa (a0 := (N, .inl (fun _ => iI 0))) hx hb (hts _ (List.mem_cons_of_mem _ w)) rfl hK hP hD.1 hS hA (fun cA => by rw [hdef]; rfl) (by rw [Int32.lt_iff_toInt_lt, iI_toInt (by omega)]; show ¬ z < 0; omega) (by rw [iI_clamp (by omega)]; omega) (by
    have : N * componentBytes (newarray.typeOf atype) ≤ 100000 * 8 := Nat.mul_le_mul hN hcb
    omega) h1 h2 dg (fun q cA H1 hK1 hP1 hD1 hS1 => ?_)
  obtain rfl := cA_eq hK1 (ht cy)
  obtain ⟨hq, hqL⟩ := fresh_at had hD1
  have e := wo_push (cy := cy) (ad := ad) (f := f) (e := (.inl (t, N, .inl (fun _ => iI 0)) : AC)) hqL (nO_big (by omega))
  rw [hq] at e
  have := kk (q + 2000) (by omega) hqL H1 locs ls (by rw [e]; exact hP1) ⟨by rw [e]; exact hD1, hD.2.psh (by omega)⟩ hS1 hl
  rw [List.map_cons] at this
  show W _ _ _ _ _ _ _ _ _ _ _ _ _ _ _ (F0 m (pc + 2) ls (Value.ref q :: st.map (rv ad)))
  rw [← hq]
  exact this
theorem Cx.newQ (C : Cx own cc nL rt ini d mc ms Po X) {cl : String} {idx t N : Nat} {z : Int} (ht : ∀ cy : Nat → ClassId, (tyl cy)[t]? = some (cy t, .object cl)) (ho : ∀ {cy : Nat → ClassId} {ad : Nat → Nat} {A : Nat → Prop} {U : State} {H : Heap}, Ev cy ad A U H → va_AO cl U) (w : Cond.classLink own idx cl ∈ Om) (hz : z = N) (hN : N ≤ 100000) (dg : decode cc pc = .ok (.anewarray idx, 3)) (h1 : ce + 1 ≤ mc) (h2 : sl + N ≤ ms)
    (kk : ∀ k, 2000 ≤ k → k ∉ L → X (ce + 1) (sl + N) (L ++ [k]) (va_up f k (.inl (t, N, .inr (.inr (.inr (.inr (fun _ => none))))))) (pc + 3) lv (.ref k :: st)) : X ce sl L f pc lv (.int (iI z) :: st) := by
  obtain ⟨p, l, e, s, m, args, below, meth, c, dC, dI, cy, ad, A, Q, w0, ⟨hx, hb, hml, hown, hts⟩, hin0, hK, hA, hE, had, hret, rfl⟩ := C
  intro H locs ls hP hD hS hl
  refine va_newq hx hb hown (hts _ (List.mem_cons_of_mem _ w)) (ho hE) hK hP hD.1 hS hA (N' := N) (by rw [Int32.lt_iff_toInt_lt, iI_toInt (by omega)]; show ¬ z < 0; omega) (by rw [iI_clamp (by omega)]; omega) (by omega) h1 h2 dg (fun q cA H1 hK1 hP1 hD1 hS1 => ?_)
  obtain rfl := cA_eq hK1 (ht cy)
  obtain ⟨hq, hqL⟩ := fresh_at had hD1
  have e := wo_push (cy := cy) (ad := ad) (f := f) (e := (.inl (t, N, .inr (.inr (.inr (.inr (fun _ => none))))) : AC)) hqL (nO_big (by omega))
  rw [hq] at e
  have := kk (q + 2000) (by omega) hqL H1 locs ls (by rw [e]; exact hP1) ⟨by rw [e]; exact hD1, hD.2.psh (by omega)⟩ hS1 hl
  rw [List.map_cons] at this
  show W _ _ _ _ _ _ _ _ _ _ _ _ _ _ _ (F0 m (pc + 3) ls (Value.ref q :: st.map (rv ad)))
  rw [← hq]
  exact this
theorem up_map {ad : Nat → Nat} {g : Nat → Option Nat} {i : Nat} {r : Option Nat} : (fun j => (va_up g i r j).map ad) = va_up (fun j => (g j).map ad) i (r.map ad) := by
  funext j
  by_cases h : j = i
  · subst h; rw [va_up_self, va_up_self]
  · rw [va_up_ne _ _ h, va_up_ne _ _ h]
/-- a Cond into a row of Conds -/
theorem Cx.aast4 (C : Cx own cc nL rt ini d mc ms Po X) {k n v i : Nat} {g : Nat → Option Nat} {fs : List Value} {z : Int} (dg : decode cc pc = .ok (.aastore, 1)) (hk : k ∈ L) (hf : f k = .inl (4, n, .inr (.inr (.inr (.inr g))))) (hv : v ∈ L) (hfv : f v = .inr (3, fs)) (hz : z = i) (hi : i < n) (hn : n < 2147483648)
    (kk : X ce sl L (va_up f k (.inl (4, n, .inr (.inr (.inr (.inr (va_up g i (some v)))))))) (pc + 1) lv st) : X ce sl L f pc lv (.ref v :: .int (iI z) :: .ref k :: st) := by
  obtain ⟨p, l, e, s, m, args, below, meth, c, dC, dI, cy, ad, A, Q, w0, ⟨hx, hb, hml, hown, hts⟩, hin0, hK, hA, hE, had, hret, rfl⟩ := C
  intro H locs ls hP hD hS hl
  have hnk := hD.2.arr hk hf (by decide)
  obtain ⟨j, hj, hwk⟩ := wo_get (cy := cy) (ad := ad) (f := f) hk hnk
  rw [hf] at hwk
  obtain ⟨j2, hj2, hwv⟩ := wo_get (cy := cy) (ad := ad) (f := f) hv (hD.2.obj hv hfv)
  rw [hfv] at hwv
  have e := wo_set (cy := cy) (ad := ad) (e := (.inl (4, n, .inr (.inr (.inr (.inr (va_up g i (some v)))))) : AC)) hD.1 hj
  have e2 : rc cy ad (.inl (4, n, .inr (.inr (.inr (.inr (va_up g i (some v))))))) = .inl (cy 4, n, .inr (.inr (.inr (.inr (va_up (fun j => (g j).map ad) i (some (ad v))))))) := by
    show Sum.inl (cy 4, n, _) = _
    rw [up_map]
    rfl
  rw [e2] at e
  refine va_astq (f := fun j => (g j).map ad) hx hb hK hP hD.1 hS j 4 j2 3 hwk (r := (RX0, TX0, 7)) rfl hwv rfl (iI_in (by omega) (by omega) hn) dg (fun H1 locs1 hP1 hD1 hS1 => ?_)
  rw [iI_clamp (by omega), show z.toNat = i by omega, e] at hP1 hD1
  exact kk H1 locs1 ls hP1 ⟨hD1, hD.2.up hnk⟩ hS1 hl
theorem any_sen {cy : Nat → ClassId} {ad : Nat → Nat} {A : Nat → Prop} {s : State} {H H0 : Heap} {dC : Nat → ClassId} {dI : Nat → Nat → Nat} {L : List Nat} {f : Nat → AC} {v : Nat} {fs : List Value} (hE : Ev cy ad A s H0) (hK : va_K (dC, dI) vwCl (tyl cy) s) (hP : va_P (dC, dI) vwCl (wo cy ad L f) H) (hO : OO L f) (hv : v ∈ L) (hfv : f v = .inr (6, fs)) : va_Any "java/lang/Object" s H (ad v) := by
  obtain ⟨j2, hj2, hwv⟩ := wo_get (cy := cy) (ad := ad) (f := f) hv (hO.obj hv hfv)
  rw [hfv] at hwv
  refine va_rAny (r := (RX3, TX3, 7)) hK hP hwv rfl (fun comp c0 h1 h2 => ?_)
  obtain ⟨c, t, g1, g2, g3⟩ := Cond.castable_spec (va_Nw.use (A := #[]) rfl hE.2.2.2.2.2.2.2.2.2.1)
  have e1 : c = c0 := Option.some.inj (g1.symm.trans h2)
  have e2 : t = comp := Option.some.inj (g2.symm.trans h1)
  rw [← e1, ← e2]
  exact g3
/-- a Sentence into a row of Objects -/
theorem Cx.aast5 (C : Cx own cc nL rt ini d mc ms Po X) {k n v i : Nat} {g : Nat → Option Nat} {fs : List Value} {z : Int} (dg : decode cc pc = .ok (.aastore, 1)) (hk : k ∈ L) (hf : f k = .inl (5, n, .inr (.inr (.inr (.inr g))))) (hv : v ∈ L) (hfv : f v = .inr (6, fs)) (hz : z = i) (hi : i < n) (hn : n < 2147483648)
    (kk : X ce sl L (va_up f k (.inl (5, n, .inr (.inr (.inr (.inr (va_up g i (some v)))))))) (pc + 1) lv st) : X ce sl L f pc lv (.ref v :: .int (iI z) :: .ref k :: st) := by
  obtain ⟨p, l, e, s, m, args, below, meth, c, dC, dI, cy, ad, A, Q, w0, ⟨hx, hb, hml, hown, hts⟩, hin0, hK, hA, hE, had, hret, rfl⟩ := C
  intro H locs ls hP hD hS hl
  have hnk := hD.2.arr5 hk hf rfl (by omega)
  obtain ⟨j, hj, hwk⟩ := wo_get (cy := cy) (ad := ad) (f := f) hk hnk
  rw [hf] at hwk
  have e := wo_set (cy := cy) (ad := ad) (e := (.inl (5, n, .inr (.inr (.inr (.inr (va_up g i (some v)))))) : AC)) hD.1 hj
  have e2 : rc cy ad (.inl (5, n, .inr (.inr (.inr (.inr (va_up g i (some v))))))) = .inl (cy 5, n, .inr (.inr (.inr (.inr (va_up (fun j => (g j).map ad) i (some (ad v))))))) := by
    show Sum.inl (cy 5, n, _) = _
    rw [up_map]
    rfl
  rw [e2] at e
  refine va_astqM (f := fun j => (g j).map ad) hx hb hK hP hD.1 hS j 5 (E := "java/lang/Object") hwk rfl (any_sen hE hK hP hD.2 hv hfv) (iI_in (by omega) (by omega) hn) dg (fun H1 locs1 hP1 hD1 hS1 => ?_)
  rw [iI_clamp (by omega), show z.toNat = i by omega, e] at hP1 hD1
  exact kk H1 locs1 ls hP1 ⟨hD1, hD.2.up hnk⟩ hS1 hl
theorem Cx.aastN (C : Cx own cc nL rt ini d mc ms Po X) {k n i : Nat} {g : Nat → Option Nat} {z : Int} (dg : decode cc pc = .ok (.aastore, 1)) (hk : k ∈ L) (hf : f k = .inl (5, n, .inr (.inr (.inr (.inr g))))) (hz : z = i) (hi : i < n) (hn : n < 2147483648)
    (kk : X ce sl L (va_up f k (.inl (5, n, .inr (.inr (.inr (.inr (va_up g i none))))))) (pc + 1) lv st) : X ce sl L f pc lv (.null :: .int (iI z) :: .ref k :: st) := by
  obtain ⟨p, l, e, s, m, args, below, meth, c, dC, dI, cy, ad, A, Q, w0, ⟨hx, hb, hml, hown, hts⟩, hin0, hK, hA, hE, had, hret, rfl⟩ := C
  intro H locs ls hP hD hS hl
  have hnk := hD.2.arr5 hk hf rfl (by omega)
  obtain ⟨j, hj, hwk⟩ := wo_get (cy := cy) (ad := ad) (f := f) hk hnk
  rw [hf] at hwk
  have e := wo_set (cy := cy) (ad := ad) (e := (.inl (5, n, .inr (.inr (.inr (.inr (va_up g i none))))) : AC)) hD.1 hj
  have e2 : rc cy ad (.inl (5, n, .inr (.inr (.inr (.inr (va_up g i none)))))) = .inl (cy 5, n, .inr (.inr (.inr (.inr (va_up (fun j => (g j).map ad) i none))))) := by
    show Sum.inl (cy 5, n, _) = _
    rw [up_map]
    rfl
  rw [e2] at e
  refine va_astqN (f := fun j => (g j).map ad) hx hb hK hP hD.1 hS j 5 (C := "java/lang/Object") hwk rfl (iI_in (by omega) (by omega) hn) dg (fun H1 locs1 hP1 hD1 hS1 => ?_)
  rw [iI_clamp (by omega), show z.toNat = i by omega, e] at hP1 hD1
  exact kk H1 locs1 ls hP1 ⟨hD1, hD.2.up hnk⟩ hS1 hl
theorem Cx.gdef (C : Cx own cc nL rt ini d mc ms Po X) {idx : Nat} (dg : decode cc pc = .ok (.getstatic idx, 3)) (w : Cond.fieldLink own idx "java/util/ArrayList" "DEFAULTCAPACITY_EMPTY_ELEMENTDATA" "[Ljava/lang/Object;" ∈ Om)
    (kk : X ce sl L f (pc + 3) lv (.ref 17 :: st)) : X ce sl L f pc lv st := by
  obtain ⟨p, l, e, s, m, args, below, meth, c, dC, dI, cy, ad, A, Q, w0, ⟨hx, hb, hml, hown, hts⟩, hin0, hK, hA, hE, had, hret, rfl⟩ := C
  intro H locs ls hP hD hS hl
  exact va_gets hx hb hE.2.2.2.2.2.1.1.1 hS hown (hts _ (List.mem_cons_of_mem _ w)) (fun _ h => h) dg (kk H locs ls hP hD hS hl)
theorem Cx.gtru (C : Cx own cc nL rt ini d mc ms Po X) {idx : Nat} (dg : decode cc pc = .ok (.getstatic idx, 3)) (w : Cond.fieldLink own idx "PlainWords$Cond" "TRUTHS" "[J" ∈ Om)
    (kk : X ce sl L f (pc + 3) lv (.ref 18 :: st)) : X ce sl L f pc lv st := by
  obtain ⟨p, l, e, s, m, args, below, meth, c, dC, dI, cy, ad, A, Q, w0, ⟨hx, hb, hml, hown, hts⟩, hin0, hK, hA, hE, had, hret, rfl⟩ := C
  intro H locs ls hP hD hS hl
  exact va_gets hx hb hE.2.2.2.2.2.1.2.1 hS hown (hts _ (List.mem_cons_of_mem _ w)) (fun _ h => h) dg (kk H locs ls hP hD hS hl)
/-- two references: the same number, or cells that hold other things -/
theorem Cx.acmp_eqT (C : Cx own cc nL rt ini d mc ms Po X) {off : Int} {tgt a : Nat} (dg : decode cc pc = .ok (.if_acmp .eq off, 3)) (ht : (pc : Int) + off = (tgt : Int)) (kt : X ce sl L f tgt lv st) : X ce sl L f pc lv (.ref a :: .ref a :: st) := by
  obtain ⟨p, l, e, s, m, args, below, meth, c, dC, dI, cy, ad, A, Q, w0, ⟨hx, hb, hml, hown, hts⟩, hin0, hK, hA, hE, had, hret, rfl⟩ := C
  intro H locs ls hP hD hS hl
  exact lv_acmp_eq (rx := some (ad a)) (ry := some (ad a)) hx hb dg ht (fun _ => kt H locs ls hP hD hS hl) (fun h => absurd rfl h)
theorem Cx.acmp_neF (C : Cx own cc nL rt ini d mc ms Po X) {off : Int} {tgt a : Nat} (dg : decode cc pc = .ok (.if_acmp .ne off, 3)) (ht : (pc : Int) + off = (tgt : Int)) (kf : X ce sl L f (pc + 3) lv st) : X ce sl L f pc lv (.ref a :: .ref a :: st) := by
  obtain ⟨p, l, e, s, m, args, below, meth, c, dC, dI, cy, ad, A, Q, w0, ⟨hx, hb, hml, hown, hts⟩, hin0, hK, hA, hE, had, hret, rfl⟩ := C
  intro H locs ls hP hD hS hl
  exact lv_acmp_ne (rx := some (ad a)) (ry := some (ad a)) hx hb dg ht (fun h => absurd rfl h) (fun _ => kf H locs ls hP hD hS hl)
theorem Cx.castS (C : Cx own cc nL rt ini d mc ms Po X) {idx k : Nat} {fs : List Value} (dg : decode cc pc = .ok (.checkcast idx, 3)) (w : Cond.classLink own idx "PlainWords$Sentence" ∈ Om) (hk : k ∈ L) (hf : f k = .inr (6, fs))
    (kk : X ce sl L f (pc + 3) lv (.ref k :: st)) : X ce sl L f pc lv (.ref k :: st) := by
  obtain ⟨p, l, e, s, m, args, below, meth, c, dC, dI, cy, ad, A, Q, w0, ⟨hx, hb, hml, hown, hts⟩, hin0, hK, hA, hE, had, hret, rfl⟩ := C
  intro H locs ls hP hD hS hl
  obtain ⟨j, hj, hwk⟩ := wo_get (cy := cy) (ad := ad) (f := f) hk (hD.2.obj hk hf)
  rw [hf] at hwk
  exact va_castS hx hb hown (hts _ (List.mem_cons_of_mem _ w)) (hK.1 6 (RX3, TX3, 7) rfl).2 (va_recv (q := (RX3, TX3, 7)) hK hP rfl hwk) dg (kk H locs ls hP hD hS hl)
theorem fc5 {s : State} {D : va_G} {cl : List vw_C} {cy : Nat → ClassId} (hK : va_K D cl (tyl cy) s) : s.vm.findClass "[Ljava/lang/Object;" = some (cy 5) := by
  have h := (hK.2 5 (cy 5, .object "java/lang/Object") rfl).2
  obtain ⟨kA, comp, -, -, -, a4⟩ := h
  exact a4
theorem Cx.ldcC (C : Cx own cc nL rt ini d mc ms Po X) {idx : Nat} (dg : decode cc pc = .ok (.ldc idx, 2)) (w : Cond.classLink own idx "[Ljava/lang/Object;" ∈ Om)
    (kk : X ce sl L f (pc + 2) lv (.ref 1300 :: st)) : X ce sl L f pc lv st := by
  obtain ⟨p, l, e, s, m, args, below, meth, c, dC, dI, cy, ad, A, Q, w0, ⟨hx, hb, hml, hown, hts⟩, hin0, hK, hA, hE, had, hret, rfl⟩ := C
  intro H locs ls hP hD hS hl
  exact va_ldcM hx hb hown (hts _ (List.mem_cons_of_mem _ w)) hE.2.2.2.2.2.2.2.1.1 dg (kk H locs ls hP hD hS hl)
theorem Cx.getC (C : Cx own cc nL rt ini d mc ms Po X) {idx k n : Nat} {g : Nat → Option Nat} (dg : decode cc pc = .ok (.invokevirtual idx, 3)) (w : Cond.methodLink own idx mGC ∈ Om) (hd : 1 ≤ d) (hs : (st.map fun v => v.category).sum ≤ 8) (hk : k ∈ L) (hf : f k = .inl (5, n, .inr (.inr (.inr (.inr g))))) (hn0 : n ≠ 0)
    (kk : X ce sl L f (pc + 3) lv (.ref 1300 :: st)) : X ce sl L f pc lv (.ref k :: st) := by
  obtain ⟨p, l, e, s, m, args, below, meth, c, dC, dI, cy, ad, A, Q, w0, ⟨hx, hb, hml, hown, hts⟩, hin0, hK, hA, hE, had, hret, rfl⟩ := C
  intro H locs ls hP hD hS hl
  obtain ⟨j, hj, hwk⟩ := wo_get (cy := cy) (ad := ad) (f := f) hk (hD.2.arr5 hk hf rfl hn0)
  rw [hf] at hwk
  have hcat := cat_sum (ad := ad) hs
  exact va_getC hx hb (hml.trans hl.1.symm) hown (hts _ (List.mem_cons_of_mem _ w)) (va_Nw.use rfl hE.2.2.2.2.2.2.2.1.2) (hts _ (List.mem_cons_of_mem _ (om_wsL_law0_r18 _ (List.mem_of_getElem? (i := 15) rfl)))) (hts _ (List.mem_cons_of_mem _ (om_wsL_law0_r18 _ (List.mem_of_getElem? (i := 16) rfl)))) (hts _ (List.mem_cons_of_mem _ (om_wsL_law0_r18 _ (List.mem_of_getElem? (i := 17) rfl)))) hE.2.2.2.2.2.2.2.1.1 ⟨_, hP j _ hwk, rfl, fc5 hK⟩ hd (by show _ ≤ 64 * d + 12; omega) dg (kk H locs ls hP hD hS hl)
theorem Cx.oinit (C : Cx own cc nL rt ini d mc ms Po X) {idx k : Nat} (dg : decode cc pc = .ok (.invokespecial idx, 3)) (w : Cond.methodLink own idx objectInit ∈ Om) (hd : 1 ≤ d) (hs : (st.map fun v => v.category).sum ≤ 8)
    (kk : X ce sl L f (pc + 3) lv st) : X ce sl L f pc lv (.ref k :: st) := by
  obtain ⟨p, l, e, s, m, args, below, meth, c, dC, dI, cy, ad, A, Q, w0, ⟨hx, hb, hml, hown, hts⟩, hin0, hK, hA, hE, had, hret, rfl⟩ := C
  intro H locs ls hP hD hS hl
  have hcat := cat_sum (ad := ad) hs
  exact W.objInit hx hb hown (hts _ (List.mem_cons_of_mem _ w)) (hts _ (List.mem_cons_of_mem _ (om_wsL_law0_r1 _ (List.mem_of_getElem? (i := 11) rfl)))) (hts _ (List.mem_cons_of_mem _ (om_wsL_law0_r1 _ (List.mem_of_getElem? (i := 12) rfl)))) (g := F0 m pc ls (.ref (ad k) :: st.map (rv ad))) rfl (hl.1.trans hml.symm) rfl dg hd (by show 2 * 0 + _ + 12 ≤ 64 * d + 12; omega) (kk H locs ls hP hD hS hl)
theorem Cx.dupx1 (C : Cx own cc nL rt ini d mc ms Po X) {va vb : Value} (dg : decode cc pc = .ok (.dup_x1, 1)) (h1 : va.category = 1) (h2 : vb.category = 1)
    (kk : X ce sl L f (pc + 1) lv (va :: vb :: va :: st)) : X ce sl L f pc lv (va :: vb :: st) := by
  obtain ⟨p, l, e, s, m, args, below, meth, c, dC, dI, cy, ad, A, Q, w0, ⟨hx, hb, hml, hown, hts⟩, hin0, hK, hA, hE, had, hret, rfl⟩ := C
  intro H locs ls hP hD hS hl
  exact lv_dup_x1 hx hb dg (by rw [rv_cat]; exact h1) (by rw [rv_cat]; exact h2) (kk H locs ls hP hD hS hl)
theorem Cx.look (C : Cx own cc nL rt ini d mc ms Po X) {dflt off : Int} {ps : Array (Int × Int)} {len tgt : Nat} {z : Int} (dg : decode cc pc = .ok (.lookupswitch dflt ps, len)) (hp : (ps.toList.zip (ps.toList.drop 1)).all (fun (a, next) => a.1 < next.1) = true) (hz : -2147483648 ≤ z ∧ z < 2147483648) (ho : Op.lookupswitch.offset ps.toList dflt z = off) (ht : (pc : Int) + off = (tgt : Int))
    (kk : X ce sl L f tgt lv st) : X ce sl L f pc lv (.int (iI z) :: st) := by
  obtain ⟨p, l, e, s, m, args, below, meth, c, dC, dI, cy, ad, A, Q, w0, ⟨hx, hb, hml, hown, hts⟩, hin0, hK, hA, hE, had, hret, rfl⟩ := C
  intro H locs ls hP hD hS hl
  exact lv_lookup hx hb dg hp (by rw [iI_toInt hz]; exact ho) ht (kk H locs ls hP hD hS hl)
/-- a piece of a row copied into another -/
abbrev cpy (f g : Nat → Int) (sp dp n : Nat) : Nat → Int := va_cpy f g sp dp n
theorem Cx.copyI (C : Cx own cc nL rt ini d mc ms Po X) {t k1 k2 n1 n2 sp dp n idx : Nat} {ty : FieldType} {g1 g2 : Nat → Int} {z1 z2 z3 : Int} (ht : ∀ cy : Nat → ClassId, (tyl cy)[t]? = some (cy t, ty)) (hprim : refKind ty = false) (hfit : ∀ i, i < n → fits ty (.int (iI (g1 (sp + i)))) = true) (w : Cond.methodLink own idx arraycopyName ∈ Om) (dg : decode cc pc = .ok (.invokestatic idx, 3)) (h1 : k1 ∈ L) (hf1 : f k1 = .inl (t, n1, .inl (fun i => iI (g1 i)))) (h2 : k2 ∈ L) (hf2 : f k2 = .inl (t, n2, .inl (fun i => iI (g2 i)))) (e1 : z1 = sp) (e2 : z2 = dp) (e3 : z3 = n) (b1 : sp + n ≤ n1) (b2 : dp + n ≤ n2) (hb1 : n1 < 2147483648) (hb2 : n2 < 2147483648) (ht9 : t ≠ 5 ∧ t ≠ 3 ∧ t ≠ 9) (hd : 1 ≤ d) (hs : (st.map fun v => v.category).sum ≤ 8)
    (kk : X ce sl L (va_up f k2 (.inl (t, n2, .inl (fun i => iI (cpy g1 g2 sp dp n i))))) (pc + 3) lv st) : X ce sl L f pc lv (.int (iI z3) :: .int (iI z2) :: .ref k2 :: .int (iI z1) :: .ref k1 :: st) := by
  obtain ⟨p, l, e, s, m, args, below, meth, c, dC, dI, cy, ad, A, Q, w0, ⟨hx, hb, hml, hown, hts⟩, hin0, hK, hA, hE, had, hret, rfl⟩ := C
  intro H locs ls hP hD hS hl
  obtain ⟨j1, hj1, hw1⟩ := wo_get (cy := cy) (ad := ad) (f := f) h1 (hD.2.arr h1 hf1 ht9)
  rw [hf1] at hw1
  have hnk := hD.2.arr h2 hf2 ht9
  obtain ⟨j2, hj2, hw2⟩ := wo_get (cy := cy) (ad := ad) (f := f) h2 hnk
  rw [hf2] at hw2
  have e := wo_set (cy := cy) (ad := ad) (e := (.inl (t, n2, .inl (fun i => iI (cpy g1 g2 sp dp n i))) : AC)) hD.1 hj2
  have hcat := cat_sum (ad := ad) hs
  have c1 : (iI z1).toNatClampNeg = sp := by rw [iI_clamp (by omega)]; omega
  have c2 : (iI z2).toNatClampNeg = dp := by rw [iI_clamp (by omega)]; omega
  have c3 : (iI z3).toNatClampNeg = n := by rw [iI_clamp (by omega)]; omega
  have nn : ∀ z : Int, 0 ≤ z → z < 2147483648 → ¬ iI z < 0 := fun z a b => by rw [Int32.lt_iff_toInt_lt, iI_toInt (by omega)]; show ¬ z < 0; omega
  have hfn : nativeFrameWords "java/lang/System" "arraycopy" 5 = 7 := by decide
  refine va_copyi (f := fun i => iI (g1 i)) (g := fun i => iI (g2 i)) hx hb (hml.trans hl.1.symm) hown (hts _ (List.mem_cons_of_mem _ w)) (hts _ (List.mem_cons_of_mem _ (om_wsL_law0_r16 _ (List.mem_of_getElem? (i := 9) rfl)))) (hts _ (List.mem_cons_of_mem _ (om_wsL_law0_r16 _ (List.mem_of_getElem? (i := 10) rfl)))) (hts _ (List.mem_cons_of_mem _ (om_wsL_law0_r16 _ (List.mem_of_getElem? (i := 11) rfl)))) hK hP hD.1 hS j1 j2 t t hw1 hw2 (ht cy) (ht cy) hprim (nn z1 (by omega) (by omega)) (nn z2 (by omega) (by omega)) (nn z3 (by omega) (by omega)) (by rw [c1, c3]; exact b1) (by rw [c2, c3]; exact b2) (fun i hi => by rw [c1]; rw [c3] at hi; exact hfit i hi) hd (by rw [hfn]; show _ ≤ 64 * d + 12; omega) dg (fun H1 locs1 hP1 hD1 hS1 => ?_)
  rw [c1, c2, c3] at hP1 hD1
  have e4 : (va_cpy (fun i => iI (g1 i)) (fun i => iI (g2 i)) sp dp n) = fun i => iI (cpy g1 g2 sp dp n i) := by
    funext i
    unfold va_cpy cpy
    unfold va_cpy
    split <;> rfl
  rw [e4, show (ad k2, (Sum.inl (cy t, n2, Sum.inl (fun i => iI (cpy g1 g2 sp dp n i))) : va_E)) = (ad k2, rc cy ad (.inl (t, n2, .inl (fun i => iI (cpy g1 g2 sp dp n i))))) from rfl, e] at hP1 hD1
  exact kk H1 locs1 ls hP1 ⟨hD1, hD.2.up hnk⟩ hS1 hl
theorem Cx.copyQ (C : Cx own cc nL rt ini d mc ms Po X) {k1 k2 n1 n2 sp dp n idx : Nat} {g1 g2 : Nat → Option Nat} {z1 z2 z3 : Int} (hel : ∀ i, i < n → ∀ y, g1 (sp + i) = some y → y ∈ L ∧ ∃ fs, f y = .inr (6, fs)) (w : Cond.methodLink own idx arraycopyName ∈ Om) (dg : decode cc pc = .ok (.invokestatic idx, 3)) (h1 : k1 ∈ L) (hf1 : f k1 = .inl (5, n1, .inr (.inr (.inr (.inr g1))))) (h2 : k2 ∈ L) (hf2 : f k2 = .inl (5, n2, .inr (.inr (.inr (.inr g2))))) (e1 : z1 = sp) (e2 : z2 = dp) (e3 : z3 = n) (b1 : sp + n ≤ n1) (b2 : dp + n ≤ n2) (hb1 : n1 < 2147483648) (hb2 : n2 < 2147483648) (hn1 : n1 ≠ 0) (hn2 : n2 ≠ 0) (hd : 1 ≤ d) (hs : (st.map fun v => v.category).sum ≤ 8)
    (kk : X ce sl L (va_up f k2 (.inl (5, n2, .inr (.inr (.inr (.inr (va_cpy g1 g2 sp dp n))))))) (pc + 3) lv st) : X ce sl L f pc lv (.int (iI z3) :: .int (iI z2) :: .ref k2 :: .int (iI z1) :: .ref k1 :: st) := by
  obtain ⟨p, l, e, s, m, args, below, meth, c, dC, dI, cy, ad, A, Q, w0, ⟨hx, hb, hml, hown, hts⟩, hin0, hK, hA, hE, had, hret, rfl⟩ := C
  intro H locs ls hP hD hS hl
  obtain ⟨j1, hj1, hw1⟩ := wo_get (cy := cy) (ad := ad) (f := f) h1 (hD.2.arr5 h1 hf1 rfl hn1)
  rw [hf1] at hw1
  have hnk := hD.2.arr5 h2 hf2 rfl hn2
  obtain ⟨j2, hj2, hw2⟩ := wo_get (cy := cy) (ad := ad) (f := f) h2 hnk
  rw [hf2] at hw2
  have e := wo_set (cy := cy) (ad := ad) (e := (.inl (5, n2, .inr (.inr (.inr (.inr (va_cpy g1 g2 sp dp n))))) : AC)) hD.1 hj2
  have hcat := cat_sum (ad := ad) hs
  have c1 : (iI z1).toNatClampNeg = sp := by rw [iI_clamp (by omega)]; omega
  have c2 : (iI z2).toNatClampNeg = dp := by rw [iI_clamp (by omega)]; omega
  have c3 : (iI z3).toNatClampNeg = n := by rw [iI_clamp (by omega)]; omega
  have nn : ∀ z : Int, 0 ≤ z → z < 2147483648 → ¬ iI z < 0 := fun z a b => by rw [Int32.lt_iff_toInt_lt, iI_toInt (by omega)]; show ¬ z < 0; omega
  have hfn : nativeFrameWords "java/lang/System" "arraycopy" 5 = 7 := by decide
  refine va_copyM (f := fun i => (g1 i).map ad) (g := fun i => (g2 i).map ad) (E0 := "java/lang/Object") (E1 := "java/lang/Object") hx hb (hml.trans hl.1.symm) hown (hts _ (List.mem_cons_of_mem _ w)) (hts _ (List.mem_cons_of_mem _ (om_wsL_law0_r16 _ (List.mem_of_getElem? (i := 9) rfl)))) (hts _ (List.mem_cons_of_mem _ (om_wsL_law0_r16 _ (List.mem_of_getElem? (i := 10) rfl)))) (hts _ (List.mem_cons_of_mem _ (om_wsL_law0_r16 _ (List.mem_of_getElem? (i := 11) rfl)))) hK hP hD.1 hS j1 j2 5 5 hw1 hw2 rfl rfl (nn z1 (by omega) (by omega)) (nn z2 (by omega) (by omega)) (nn z3 (by omega) (by omega)) (by rw [c1, c3]; exact b1) (by rw [c2, c3]; exact b2) (fun i hi y hy => by
    rw [c1] at hy
    rw [c3] at hi
    obtain ⟨y0, hy0, rfl⟩ := Option.map_eq_some_iff.mp hy
    obtain ⟨m1, fs, m2⟩ := hel i hi y0 hy0
    exact any_sen hE hK hP hD.2 m1 m2) hd (by rw [hfn]; show _ ≤ 64 * d + 12; omega) dg (fun H1 locs1 hP1 hD1 hS1 => ?_)
  rw [c1, c2, c3] at hP1 hD1
  have e4 : (va_cpy (fun i => (g1 i).map ad) (fun i => (g2 i).map ad) sp dp n) = fun i => (va_cpy g1 g2 sp dp n i).map ad := by
    funext i
    unfold va_cpy
    split <;> rfl
  rw [e4, show (ad k2, (Sum.inl (cy 5, n2, Sum.inr (Sum.inr (Sum.inr (Sum.inr (fun i => (va_cpy g1 g2 sp dp n i).map ad))))) : va_E)) = (ad k2, rc cy ad (.inl (5, n2, .inr (.inr (.inr (.inr (va_cpy g1 g2 sp dp n))))))) from rfl, e] at hP1 hD1
  exact kk H1 locs1 ls hP1 ⟨hD1, hD.2.up hnk⟩ hS1 hl
end ROWS3
