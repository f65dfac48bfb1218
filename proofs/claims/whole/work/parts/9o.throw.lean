/-! methods that throw -/
def XC0 (dC : Nat → ClassId) (dI : Nat → Nat → Nat) (cy : Nat → ClassId) (ad : Nat → Nat) (A : Nat → Prop) (PX : String → List Nat → (Nat → AC) → Prop) : String → State → State → Prop := fun E st t =>
  (∃ (L' : List Nat) (f' : Nat → AC), PX E L' f' ∧ va_P (dC, dI) vwCl (wo cy ad L' f') t.heap ∧ vD A cy ad L' f') ∧ va_F A st t
/-- what a walk that ends in a throw knows -/
def Tx (own : String) (cc : ByteArray) (nL : Nat) (rt : Option FieldType) (d mc ms : Nat) (PX : String → List Nat → (Nat → AC) → Prop) (X : XT) : Prop :=
  ∃ (p : Program) (l : Launch) (e : Env) (s : State) (m : MethodId) (args : Array Value) (below : List Frame) (meth : Method) (c : Code) (dC : Nat → ClassId) (dI : Nat → Nat → Nat) (cy : Nat → ClassId) (ad : Nat → Nat) (A : Nat → Prop) (w0 : Cond),
    CallFix p m c cc nL s args (w0 :: Om) own ∧ va_K (dC, dI) vwCl (tyl cy) s ∧ (∀ q, s.heap.size ≤ q → A q) ∧ Ev cy ad A s s.heap ∧ adOk ad ∧ l.stackTraces = false ∧ (∀ x ∈ c.exceptionTable.toList, False) ∧ meth.locks = false ∧
    X = VV p l e (rmm d mc ms) s m args below meth c dC dI cy ad A nL (vx_MQ below (fun _ _ _ _ => False) (XC0 dC dI cy ad A PX) args s mc ms A)
/-- the contract of a method that throws -/
def XM (y : MethodName) (cc : ByteArray) (nL : Nat) (rt : Option FieldType) (d mc ms : Nat) (as : List Value) (L : List Nat) (f : Nat → AC) (PX : String → List Nat → (Nat → AC) → Prop) : Prop :=
  ∀ (l : Launch) (dC : Nat → ClassId) (dI : Nat → Nat → Nat) (cy : Nat → ClassId) (ad : Nat → Nat) (sz : Nat), adOk ad → l.stackTraces = false → vx_Met l y (.code y cc nL rt :: Om) (rmm d mc ms)
    (va_Pc (as.map (rv ad)) (fun U => U.heap.size = sz ∧ va_P (dC, dI) vwCl (wo cy ad L f) U.heap ∧ va_K (dC, dI) vwCl (tyl cy) U ∧ vD (fun _ => True) cy ad L f ∧ Ev cy ad (va_A (wo cy ad L f) sz) U U.heap))
    (fun _ _ _ _ => False) (XC0 dC dI cy ad (va_A (wo cy ad L f) sz) PX) mc ms (va_A (wo cy ad L f) sz)
theorem dc_of {args : Array Value} {s : State} {y : MethodName} {bytes : ByteArray} {n : Nat} {ret : Option FieldType} (h1 : (Cond.instanceMethod y).before args s = true) (h2 : (Cond.code y bytes n ret).before args s = true) : (Cond.declares y).before args s = true := by
  obtain ⟨m, meth, hn, hm, hst, -⟩ := Cond.instanceMethod_spec h1
  obtain ⟨meth', c, hm', -, -, -, -, -, -, hsig⟩ := Cond.code_spec hn h2
  cases hm.symm.trans hm'
  show (Cond.declares y).holds args s none s [] = true
  simp [Cond.holds, Cond.value, hn, hm, hst, hsig]
abbrev dcl : List Cond := [.declares (Bundle.initS Bundle.tN), .declares (Bundle.initS "java/lang/RuntimeException"), .declares (Bundle.initS "java/lang/Exception")]
theorem dcl_w : ∀ w ∈ [Cond.instanceMethod (Bundle.initS Bundle.tN), Cond.code (Bundle.initS Bundle.tN) LibCode.Throwable.InitS.code 2 none, Cond.instanceMethod (Bundle.initS "java/lang/RuntimeException"), Cond.code (Bundle.initS "java/lang/RuntimeException") Bundle.six 2 none, Cond.instanceMethod (Bundle.initS "java/lang/Exception"), Cond.code (Bundle.initS "java/lang/Exception") Bundle.six 2 none], w ∈ tx0 := by decide +kernel
theorem dcl_ok {args : Array Value} {s : State} (h : ∀ w ∈ Om, w.before args s = true) : ∀ w ∈ dcl, w.before args s = true := by
  have k : ∀ w ∈ _, _ := fun w hw => h w (om_tx0 (dcl_w w hw))
  exact vx_c (dc_of (k _ (by simp)) (k (Cond.code (Bundle.initS Bundle.tN) LibCode.Throwable.InitS.code 2 none) (by simp))) (vx_c (dc_of (k _ (by simp)) (k (Cond.code (Bundle.initS "java/lang/RuntimeException") Bundle.six 2 none) (by simp))) (vx_c (dc_of (k _ (by simp)) (k (Cond.code (Bundle.initS "java/lang/Exception") Bundle.six 2 none) (by simp))) vx_n))
section THR
variable {own : String} {cc : ByteArray} {nL : Nat} {rt : Option FieldType} {d mc ms : Nat} {PX : String → List Nat → (Nat → AC) → Prop} {X : XT} {ce sl pc : Nat} {L : List Nat} {f : Nat → AC} {lv : List (Option Value)} {st : List Value}
theorem Tx.C (C : Tx own cc nL rt d mc ms PX X) : Cx own cc nL rt false d mc ms (fun _ _ _ => False) X := by
  obtain ⟨p, l, e, s, m, args, below, meth, c, dC, dI, cy, ad, A, w0, hF, hK, hA, hE, had, hst, htab, hlk, hX⟩ := C
  exact ⟨p, l, e, s, m, args, below, meth, c, dC, dI, cy, ad, A, _, w0, hF, (fun h => by cases h), hK, hA, hE, had, (fun _ _ _ _ _ _ _ _ _ _ h => h.elim), hX⟩
theorem XM.of {y : MethodName} {as : List Value} (hy : plainName y.cls = true) (has : ∀ v ∈ as, v.category = 1) (hn : as.length ≤ nL)
    (body : ∀ X : XT, Tx y.cls cc nL rt d mc ms PX X → X 0 0 L f 0 (as.map some ++ List.replicate (nL - as.length) none) []) : XM y cc nL rt d mc ms as L f PX := by
  intro l dC dI cy ad sz had hst
  refine vx_ofW (cc := cc) (maxL := nL) (ret := rt) hy rfl ?_
  intro p e s m args below meth c s₁ B hml htab hv
  obtain ⟨rfl, hsz, hP, hK, hD0, hE⟩ := hv
  have hx := B.exec
  have hb := B.bytes
  have hlocks := B.notSynchronized
  have hts := atoms_spec (ws := .code y cc nL rt :: Om) B.pre
  have hown : s.vm.findClass y.cls = some m.cls := findClass_of_methodNamed B.named
  subst hsz
  have hD : vD (va_A (wo cy ad L f) s.heap.size) cy ad L f := ⟨hD0.1.self (sz := s.heap.size), hD0.2⟩
  generalize hAe : va_A (wo cy ad L f) s.heap.size = A at hD hE ⊢
  have hA : ∀ q : Nat, s.heap.size ≤ q → A q := fun q h => by rw [← hAe]; exact Or.inr h
  have hS : va_S A s.heap s.heap [] := va_S.rf
  rw [lg_entry_eq]
  exact body _ ⟨p, l, e, s, m, (as.map (rv ad)).toArray, below, meth, c, dC, dI, cy, ad, A, Cond.code y cc nL rt, ⟨hx, hb, hml, hown, hts⟩, hK, hA, hE, had, hst, htab, hlocks, rfl⟩ s.heap [] _ hP hD hS (al_entry ad as nL has hn)
/-- throw new E("..") -/
theorem Tx.thr (C : Tx own cc nL rt d mc ms PX X) {ik is ic j : Nat} {E text : String} {bs : List Int32} (d0 : decode cc pc = .ok (.new ik, 3)) (d3 : decode cc (pc + 3) = .ok (.dup, 1)) (d4 : decode cc (pc + 4) = .ok (.ldc is, 2)) (d6 : decode cc (pc + 6) = .ok (.invokespecial ic, 3)) (d9 : decode cc (pc + 9) = .ok (.athrow, 1))
    (hstr : strs[j]? = some (own, is, text, bs)) (w1 : Cond.classLink own ik E ∈ Om) (w2 : Cond.initialized E ∈ Om) (w3 : ∀ w ∈ (vx_atS own ic E thN).filter goodWord, w ∈ Om) (w4 : ∀ w ∈ (vx_atS own ic E thN).filter (fun w => !goodWord w), w ∈ Cond.castable E E :: dcl) (hcl : E ∈ castL) (hfit : Bundle.fit E = true)
    (hot : ∀ w ∈ Cond.classLink own ik E :: Cond.initialized E :: vx_atS own ic E thN, vx_ot w = true) (hd : 6 ≤ d) (hs : (st.map fun v => v.category).sum ≤ 8) (h1 : ce + 1 ≤ mc) (h2 : sl + 6 ≤ ms) (hp : PX E L f) : X ce sl L f pc lv st := by
  obtain ⟨p, l, e, s, m, args, below, meth, c, dC, dI, cy, ad, A, w0, ⟨hx, hb, hml, hown, hts⟩, hK, hA, hE, had, hst, htab, hlk, rfl⟩ := C
  intro H locs ls hP hD hS hl
  have hcs := cat_sum (ad := ad) hs
  refine vx_throwS hx hb hst (cls := E) (text := text) (names := thN) hown hfit (by decide +kernel) (hts _ (List.mem_cons_of_mem _ w1)) (hts _ (List.mem_cons_of_mem _ w2)) (hE.1 j _ hstr).1
    (vx_hat (fun w hw => hts _ (List.mem_cons_of_mem _ (w3 w hw))) w4 (vx_c (va_tabs rfl rfl (hE.2.2.2.2.2.2.2.2.2.2.1 E hcl)) (dcl_ok (fun w hw => hts w (List.mem_cons_of_mem _ hw))))) hot hE.2.2.2.2.2.2.1.1 hE.2.2.2.2.2.2.1.2 hS (hl.1.trans hml.symm) d0 d3 d4 d6 d9 (fun x hx => (htab x hx).elim)
    (by show 2 + 3 < d; omega) (by show _ + (13 * (2 + 1) + 43) ≤ 64 * d + 12; omega) (by show ce + 1 ≤ mc; exact h1) (by show sl + 6 ≤ ms; exact h2) hlk ?_ hS.2.2 h1 h2
  intro t hal hsz hk
  refine ⟨⟨L, f, hp, hP.kept (fun k q hkq => hk q.1 (vx_lt hP hkq)), hD⟩, Nat.le_trans hS.1 hsz, fun q hq hq2 => ?_⟩
  rw [hk q (Nat.lt_of_lt_of_le hq hS.1)]
  exact hS.2.1 q hq hq2
/-- a call of one that throws, and nothing catches -/
theorem Tx.callV (C : Tx own cc nL rt d mc ms PX X) {y : MethodName} {cc2 : ByteArray} {nL2 : Nat} {rt2 : Option FieldType} {d2 mc2 ms2 idx n k ci : Nat} {as fs : List Value} {PX2 : String → List Nat → (Nat → AC) → Prop} {T : u_T} {N : Nat} (M : XM y cc2 nL2 rt2 d2 mc2 ms2 (.ref k :: as) L f PX2) (cw : CW y cc2 nL2 rt2 n) (w1 : Cond.methodLink own idx y ∈ Om) (w2 : Cond.instanceMethod y ∈ Om) (w3 : Cond.selects y.cls y y ∈ Om) (dg : decode cc pc = .ok (.invokevirtual idx, 3)) (hk : k ∈ L) (hf : f k = .inr (ci, fs)) (hc : vwCl[ci]? = some (y.cls, T, N)) (hn : as.length = n) (hd : d2 + 1 ≤ d) (h1 : ce + mc2 ≤ mc) (h2 : sl + ms2 ≤ ms) (hs : (st.map fun v => v.category).sum ≤ 8) {st0 : List Value} (hst : st0 = as.reverse ++ .ref k :: st)
    (kk : ∀ (E : String) (L' : List Nat) (f' : Nat → AC), PX2 E L' f' → PX E L' f') : X ce sl L f pc lv st0 := by
  obtain ⟨p, l, e, s, m, args, below, meth, c, dC, dI, cy, ad, A, w0, ⟨hx, hb, hml, hown, hts⟩, hK, hA, hE, had, hstk, htab, hlk, rfl⟩ := C
  intro H locs ls hP hD hS hl
  subst hst
  obtain ⟨c1, c2, c3, c4, c5, c6⟩ := cw
  obtain ⟨i, hi, hwk⟩ := wo_get (cy := cy) (ad := ad) (f := f) hk (hD.2.obj hk hf)
  rw [hf] at hwk
  have hg : GoodIn (w0 :: Om) (wsV own idx y.cls y (Cond.code y cc2 nL2 rt2 :: Om)) := by
    intro w hw
    rcases List.mem_append.mp hw with h | h
    · simp only [List.mem_cons, List.not_mem_nil, or_false] at h
      rcases h with rfl | rfl | rfl | rfl
      · exact Om_w w1
      · exact Om_w w2
      · exact Om_w w3
      · exact Om_w c1
    · rcases List.mem_cons.mp h with rfl | h
      · exact Om_w c2
      · exact Om_w h
  have hstk2 : (as.reverse ++ .ref k :: st).map (rv ad) = (as.map (rv ad)).reverse ++ .ref (ad k) :: st.map (rv ad) := by
    rw [List.map_append, List.map_reverse]
    rfl
  have hr := vx_runV (R := rmm d mc ms) (p := p) (e := e) (below := below) (meth := meth) (locs := locs) (cells := ce) (slots := sl) (g := F0 m pc ls ((as.reverse ++ .ref k :: st).map (rv ad))) (As := as.map (rv ad)) (rest := st.map (rv ad)) (b := ad k) (C := y.cls) ⟨hx, hb, hml, hown, hts⟩ (M l dC dI cy ad H.size had hstk) (cwV n hts hg rfl rfl rfl ⟨rfl, c3, c4, c5⟩ ⟨hd, by show 8 + (nL2 + 11) + (64 * d2 + 12) ≤ 64 * d + 12; omega⟩) ⟨call_fb, va_recv hK hP hc hwk, call_pre hP hD hS hA hK hE⟩ rfl (by rw [List.length_map]; exact hn) hl.1 hstk2 (lv_room (cat_sum hs)) dg ⟨h1, h2⟩
  have hF := call_free hD hS hA
  intro T1 hT1 X1
  rcases hr T1 hT1 X1 with ⟨v, st₀, t, T', Lc, h0, X', hL, e1, e2, hfl, stp⟩ | ⟨q, st₀, t, T', Lc, E, ce', h0, X', hL, e1, e2, ⟨⟨L', f', hpo, hP1, hD1⟩, hz, hkp⟩, hcell, hvm, hcls, stp⟩
  · exact hfl.elim
  · rw [h0] at hz hkp
    have hS' : va_S A s.heap T'.heap (locs ++ Lc) := by
      refine ⟨Nat.le_trans hS.1 (by rw [e1]; exact hz), fun q h1 h2 => ?_, fun q hq => ?_⟩
      · rw [e1, hkp q (Nat.lt_of_lt_of_le h1 hS.1) (fun z => h2 (hF q z))]
        exact hS.2.1 q h1 h2
      · rcases List.mem_append.mp hq with h | h
        · exact hS.2.2 q h
        · exact hF _ (hL q h)
    have ho := vx_out (p := p) (l := l) (e := e) (R := rmm d mc ms) (args := args) (below := below) (Qc := fun _ _ _ _ => False) (XC := XC0 dC dI cy ad A PX) (free := A) (H := T'.heap) (locs := locs ++ Lc) (cells := ce + mc2) (slots := sl + ms2) (mc := mc) (ms := ms) (m := m) (pc := pc) (ls := ls) (rest := st.map (rv ad)) (E := E) (ce := ce') (q := q) (fun x hx => (htab x hx).elim) hlk (by rw [e1]; exact hcell) hvm hcls
      (fun t2 ht2 _ => ⟨⟨L', f', kk E L' f' hpo, by rw [ht2, e1]; exact hP1, ⟨hD1.1.weaken (fun _ _ _ h => hF _ h), hD1.2⟩⟩, hS'.F ht2⟩) hS'.2.2 h1 h2
    obtain ⟨t2, a1, b1⟩ := ho T' rfl X'
    exact ⟨t2, stp.trans a1, b1⟩
end THR
abbrev eIA : String := "java/lang/IllegalArgumentException"
abbrev eIS : String := "java/lang/IllegalStateException"
abbrev eIO : String := "java/lang/IndexOutOfBoundsException"
abbrev eNE : String := "java/util/NoSuchElementException"
theorem w4_0 : ∀ w ∈ (vx_atS RX8 73 eIA thN).filter (fun w => !goodWord w), w ∈ Cond.castable eIA eIA :: dcl := by decide +kernel
theorem w4_1 : ∀ w ∈ (vx_atS RX8 165 eIO thN).filter (fun w => !goodWord w), w ∈ Cond.castable eIO eIO :: dcl := by decide +kernel
theorem w4_2 : ∀ w ∈ (vx_atS RX8 160 eIS thN).filter (fun w => !goodWord w), w ∈ Cond.castable eIS eIS :: dcl := by decide +kernel
theorem w4_3 : ∀ w ∈ neW.filter (fun w => !goodWord w), w ∈ Cond.castable eNE eNE :: dcl := by decide +kernel
theorem ot_0 : ∀ w ∈ Cond.classLink RX8 69 eIA :: Cond.initialized eIA :: vx_atS RX8 73 eIA thN, vx_ot w = true := by decide +kernel
theorem ot_1 : ∀ w ∈ Cond.classLink RX8 161 eIO :: Cond.initialized eIO :: vx_atS RX8 165 eIO thN, vx_ot w = true := by decide +kernel
theorem ot_2 : ∀ w ∈ Cond.classLink RX8 156 eIS :: Cond.initialized eIS :: vx_atS RX8 160 eIS thN, vx_ot w = true := by decide +kernel
theorem ot_3 : ∀ w ∈ Cond.classLink RX8 117 eNE :: Cond.initialized eNE :: neW, vx_ot w = true := by decide +kernel
def XP (E : String) (L : List Nat) (f : Nat → AC) : String → List Nat → (Nat → AC) → Prop := fun E' L' f' => E' = E ∧ L' = L ∧ f' = f
section THR2
variable {cc : ByteArray} {nL : Nat} {rt : Option FieldType} {d mc ms : Nat} {PX : String → List Nat → (Nat → AC) → Prop} {X : XT} {ce sl pc : Nat} {L : List Nat} {f : Nat → AC} {lv : List (Option Value)} {st : List Value}
theorem Tx.thrIA (C : Tx RX8 cc nL rt d mc ms PX X) (d0 : decode cc pc = .ok (.new 69, 3)) (d3 : decode cc (pc + 3) = .ok (.dup, 1)) (d4 : decode cc (pc + 4) = .ok (.ldc 71, 2)) (d6 : decode cc (pc + 6) = .ok (.invokespecial 73, 3)) (d9 : decode cc (pc + 9) = .ok (.athrow, 1)) (hd : 6 ≤ d) (hs : (st.map fun v => v.category).sum ≤ 8) (h1 : ce + 1 ≤ mc) (h2 : sl + 6 ≤ ms) (hp : PX eIA L f) : X ce sl L f pc lv st :=
  C.thr (j := 37) d0 d3 d4 d6 d9 rfl (om_wsL_law0_r7 _ (List.mem_of_getElem? (i := 9) rfl)) (om_wsL_law0_r7 _ (List.mem_of_getElem? (i := 10) rfl)) (fun _ h => om_tx0 h) w4_0 (by decide) (by decide +kernel) ot_0 hd hs h1 h2 hp
theorem Tx.thrIO (C : Tx RX8 cc nL rt d mc ms PX X) (d0 : decode cc pc = .ok (.new 161, 3)) (d3 : decode cc (pc + 3) = .ok (.dup, 1)) (d4 : decode cc (pc + 4) = .ok (.ldc 163, 2)) (d6 : decode cc (pc + 6) = .ok (.invokespecial 165, 3)) (d9 : decode cc (pc + 9) = .ok (.athrow, 1)) (hd : 6 ≤ d) (hs : (st.map fun v => v.category).sum ≤ 8) (h1 : ce + 1 ≤ mc) (h2 : sl + 6 ≤ ms) (hp : PX eIO L f) : X ce sl L f pc lv st :=
  C.thr (j := 40) d0 d3 d4 d6 d9 rfl (om_wsL_law0_r26 _ (List.mem_of_getElem? (i := 15) rfl)) (om_wsL_law0_r26 _ (List.mem_of_getElem? (i := 16) rfl)) (fun _ h => om_tx1 h) w4_1 (by decide) (by decide +kernel) ot_1 hd hs h1 h2 hp
theorem Tx.thrIS (C : Tx RX8 cc nL rt d mc ms PX X) (d0 : decode cc pc = .ok (.new 156, 3)) (d3 : decode cc (pc + 3) = .ok (.dup, 1)) (d4 : decode cc (pc + 4) = .ok (.ldc 158, 2)) (d6 : decode cc (pc + 6) = .ok (.invokespecial 160, 3)) (d9 : decode cc (pc + 9) = .ok (.athrow, 1)) (hd : 6 ≤ d) (hs : (st.map fun v => v.category).sum ≤ 8) (h1 : ce + 1 ≤ mc) (h2 : sl + 6 ≤ ms) (hp : PX eIS L f) : X ce sl L f pc lv st :=
  C.thr (j := 39) d0 d3 d4 d6 d9 rfl (om_wsL_law0_r26 _ (List.mem_of_getElem? (i := 21) rfl)) (om_wsL_law0_r26 _ (List.mem_of_getElem? (i := 22) rfl)) (fun _ h => om_tx2 h) w4_2 (by decide) (by decide +kernel) ot_2 hd hs h1 h2 hp
theorem Tx.thrNE (C : Tx RX8 cc nL rt d mc ms PX X) (d0 : decode cc pc = .ok (.new 117, 3)) (d3 : decode cc (pc + 3) = .ok (.dup, 1)) (d4 : decode cc (pc + 4) = .ok (.ldc 119, 2)) (d6 : decode cc (pc + 6) = .ok (.invokespecial 121, 3)) (d9 : decode cc (pc + 9) = .ok (.athrow, 1)) (hd : 6 ≤ d) (hs : (st.map fun v => v.category).sum ≤ 8) (h1 : ce + 1 ≤ mc) (h2 : sl + 6 ≤ ms) (hp : PX eNE L f) : X ce sl L f pc lv st := by
  obtain ⟨p, l, e, s, m, args, below, meth, c, dC, dI, cy, ad, A, w0, ⟨hx, hb, hml, hown, hts⟩, hK, hA, hE, had, hst, htab, hlk, rfl⟩ := C
  intro H locs ls hP hD hS hl
  have hcs := cat_sum (ad := ad) hs
  refine vx_throwNE hx hb hst (text := _) hown (hts _ (List.mem_cons_of_mem _ (om_wsL_law0_r40 _ (List.mem_of_getElem? (i := 3) rfl)))) (hts _ (List.mem_cons_of_mem _ (om_wsL_law0_r40 _ (List.mem_of_getElem? (i := 4) rfl)))) (hE.1 38 _ rfl).1
    (vx_hat (fun w hw => hts _ (List.mem_cons_of_mem _ (om_tx3 hw))) w4_3 (vx_c (va_tabs rfl rfl (hE.2.2.2.2.2.2.2.2.2.2.1 eNE (by decide))) (dcl_ok (fun w hw => hts w (List.mem_cons_of_mem _ hw))))) ot_3 hE.2.2.2.2.2.2.1.1 hE.2.2.2.2.2.2.1.2 hS (hl.1.trans hml.symm) d0 d3 d4 d6 d9 (fun x hx => (htab x hx).elim)
    (by show 2 + 3 < d; omega) (by show _ + (13 * (2 + 1) + 43) ≤ 64 * d + 12; omega) (by show ce + 1 ≤ mc; exact h1) (by show sl + 6 ≤ ms; exact h2) hlk ?_ hS.2.2 h1 h2
  intro t hal hsz hk
  refine ⟨⟨L, f, hp, hP.kept (fun k q hkq => hk q.1 (vx_lt hP hkq)), hD⟩, Nat.le_trans hS.1 hsz, fun q hq hq2 => ?_⟩
  rw [hk q (Nat.lt_of_lt_of_le hq hS.1)]
  exact hS.2.1 q hq hq2
end THR2
