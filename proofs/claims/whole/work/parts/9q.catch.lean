/-! methods that catch -/
/-- which row of a table takes an exception of the class E that is thrown at pc -/
def HW (own : String) (pc : Nat) (E : String) : List (Nat × Nat × Nat × Nat) → Nat → Prop
  | [], _ => False
  | x :: t, p' => covers ⟨x.1, x.2.1, x.2.2.1, x.2.2.2⟩ pc = true ∧ x.2.2.2 ≠ 0 ∧ ∃ nm, Cond.classLink own x.2.2.2 nm ∈ Om ∧ ((nm = E ∧ E ∈ castL ∧ p' = x.2.2.1) ∨ ((E, nm) ∈ ncL ∧ HW own pc E t p'))
theorem hw_go {e : Env} {s₀ : State} {args : Array Value} {f : JFrame} {a : Addr} {cell : Cell} {own E : String} (hpl : e.platform.magicAccessors = ({} : Platform).magicAccessors) (hown : s₀.vm.findClass own = some f.method.cls) (hts : ∀ w ∈ Om, w.before args s₀ = true) (hcast : ∀ q ∈ castL, va_Nw (.castable q q) s₀) (hnc : ∀ q ∈ ncL, va_Nc q.1 q.2 s₀) (hv : cell.vm = .none) (hcl : s₀.vm.findClass E = some cell.cls) :
    ∀ (hh : List (Nat × Nat × Nat × Nat)) (p' : Nat) (S : State), HW own f.pc E hh p' → s₀.WarmedH S.vm → S.heap[a]? = some cell → ∃ vm', s₀.WarmedH vm' ∧ ∀ (Q : Handler → Pre) (G : CtlPost) (d : Bool) (acts : List Action), Sem.wp (findHandler.go f a (tableOf hh)) Q G e d acts S ↔ Q (.found p') d acts (S.setVm vm') := by
  intro hh
  induction hh with
  | nil => intro p' S h; exact h.elim
  | cons x t ih =>
    intro p' S h hW hcell
    obtain ⟨hcov, h0, nm, hw, hor⟩ := h
    obtain ⟨c, hc, hl⟩ := Cond.classLink_spec hown (hts _ hw) e.platform hpl
    obtain ⟨dk, _, _, kt, hd, _, _, _, _, hkt, _, hopen⟩ := hl.here
    have hW2 := hW.noted hd hopen (State.rightAt_cls hl)
    obtain ⟨ha, ht⟩ := (resolveClass_links e.toSetting (hW.classLinks hl)).op (op := VmOp.resolveClass f.method.cls x.2.2.2) rfl
    obtain ⟨k1, hk1, -⟩ := Vm.findClass_spec hcl
    obtain ⟨k1', hk1', -⟩ := hW2.alike.2.2 _ _ hk1
    obtain ⟨k2', hk2', -⟩ := hW2.alike.2.2 _ _ hkt
    have hob : ∀ k, cell.vm ≠ .statics k := VmData.ne_statics_of (by rw [hv]; rfl)
    simp only [covers] at hcov
    rcases hor with ⟨rfl, hE, rfl⟩ | ⟨hE, hrest⟩
    · obtain ⟨c3, c4, hc3, hc4, hasg⟩ := Cond.castable_spec (hcast _ hE)
      cases Option.some.inj (hc3.symm.trans hcl)
      cases Option.some.inj (hc4.symm.trans hc)
      refine ⟨_, hW2, fun Q G d acts => ?_⟩
      show Sem.wp (findHandler.go f a (⟨x.1, x.2.1, x.2.2.1, x.2.2.2⟩ :: tableOf t)) Q G e d acts S ↔ _
      have hfit' : (S.vm.noted f.method.cls x.2.2.2 (.cls c)).assignable cell.cls c = true := by rw [hW2.alike.assignable]; exact hasg
      simp [findHandler.go, hcov, h0, ha, ht, hcell, hob, hk1', hk2', hfit', VmOp.dirties, VmOp.acts]
    · obtain ⟨c3, c4, hc3, hc4, hno⟩ := hnc _ hE
      cases Option.some.inj (hc3.symm.trans hcl)
      cases Option.some.inj (hc4.symm.trans hc)
      obtain ⟨vm', hW', hq⟩ := ih p' (S.setVm (S.vm.noted f.method.cls x.2.2.2 (.cls c))) hrest hW2 hcell
      refine ⟨vm', hW', fun Q G d acts => ?_⟩
      have hno' : (S.vm.noted f.method.cls x.2.2.2 (.cls c)).assignable cell.cls c = false := by rw [hW2.alike.assignable]; exact hno
      rw [← show (S.setVm (S.vm.noted f.method.cls x.2.2.2 (.cls c))).setVm vm' = S.setVm vm' from rfl, ← hq Q G d acts]
      show Sem.wp (findHandler.go f a (⟨x.1, x.2.1, x.2.2.1, x.2.2.2⟩ :: tableOf t)) Q G e d acts S ↔ _
      simp [findHandler.go, hcov, h0, ha, ht, hcell, hob, hk1', hk2', hno', VmOp.dirties, VmOp.acts]
/-- one step: the row takes it -/
theorem hw_step {tb : Tables} {e : Env} {s t : State} {g : JFrame} {c : Code} {below : List Frame} {a : Addr} (h : At s g.method c below) {pc : Nat} {vm' : Vm}
    (hfind : ∀ (Q : Handler → Pre) (G : CtlPost) (d : Bool) (acts : List Action), Sem.wp (findHandler g a) Q G e d acts ((s.setTop g).pushFrame (.throwing a)) ↔ Q (.found pc) d acts (((s.setTop g).pushFrame (.throwing a)).setVm vm')) (hrest : Steps tb e below ((s.setVm vm').setTop { g with pc := pc, stack := [.ref a] }) t) :
    Steps tb e below ((s.setTop g).pushFrame (.throwing a)) t := by
  obtain ⟨hgo, hw⟩ := h.throwing a
  refine Steps.head hgo hw ?_
  have key : ∀ (S : State) (r : List Frame), (∀ (Q : Handler → Pre) (G : CtlPost) (d : Bool) (acts : List Action), Sem.wp (findHandler g a) Q G e d acts S ↔ Q (.found pc) d acts (S.setVm vm')) → (stepThrowing e S a (.java g :: r)).1 = (S.setVm vm').setFrames (.java { g with pc := pc, stack := [.ref a] } :: r) := by
    intro S r hf
    simp only [stepThrowing, searchFrame, vmDo]
    generalize hr : Sem.go _ e false [] S = res
    obtain ⟨as, rfl, -⟩ := Sem.eq_ok_of hr (a := Handler.found pc) (s' := S.setVm vm') (acts' := []) (by simp [hf _ _ _ _])
    rfl
  obtain ⟨g₀, hg⟩ := Option.isSome_iff_exists.mp h.top
  obtain ⟨r, hr⟩ := State.topJava?_eq_some.mp hg
  rw [stepThread_throwing (frames_entered h.top _), key _ _ hfind, hr, List.tail_cons]
  have h1 : ∀ (u : State) (F G : List Frame), ((u.setFrames F).setVm vm').setFrames G = (u.setVm vm').setFrames G := fun u F G => by
    rw [show (u.setFrames F).setVm vm' = (u.setVm vm').setFrames F from rfl, State.setFrames_setFrames]
  have hr' : (s.setVm vm').frames = .java g₀ :: r := hr
  rw [State.setTop_of_frames _ hr'] at hrest
  rw [State.pushFrame, h1, State.setTop_of_frames _ hr, h1]
  exact hrest
/-- what a walk of a method with a table knows -/
def Hx (own : String) (cc : ByteArray) (nL : Nat) (rt : Option FieldType) (hh : List (Nat × Nat × Nat × Nat)) (d mc ms : Nat) (Po : AT) (X : XT) : Prop :=
  ∃ (p : Program) (l : Launch) (e : Env) (s : State) (m : MethodId) (args : Array Value) (below : List Frame) (meth : Method) (c : Code) (dC : Nat → ClassId) (dI : Nat → Nat → Nat) (cy : Nat → ClassId) (ad : Nat → Nat) (A : Nat → Prop) (Q : State → Prop) (w0 : Cond),
    CallFix p m c cc nL s args (w0 :: Om) own ∧ va_K (dC, dI) vwCl (tyl cy) s ∧ (∀ q, s.heap.size ≤ q → A q) ∧ Ev cy ad A s s.heap ∧ adOk ad ∧ l.stackTraces = false ∧ c.exceptionTable.toList = tableOf hh ∧
    (∀ (ins : Instr) (r : Option Value) (L : List Nat) (f : Nat → AC) (H : Heap) (locs : List Loc) (pc : Nat) (ls : Array Slot), RK rt ins r → decode cc pc = .ok (ins, 1) → Po r L f → va_P (dC, dI) vwCl (wo cy ad L f) H → vD A cy ad L f → va_S A s.heap H locs → W p l e (rmm d mc ms) s m args below meth c H locs mc ms Q (F0 m pc ls ((r.map (rv ad)).toList))) ∧
    X = VV p l e (rmm d mc ms) s m args below meth c dC dI cy ad A nL Q
/-- the contract of a method with a table that catches all -/
def AW (y : MethodName) (cc : ByteArray) (nL : Nat) (rt : Option FieldType) (hh : List (Nat × Nat × Nat × Nat)) (d mc ms : Nat) (as : List Value) (L : List Nat) (f : Nat → AC) (Po : AT) : Prop :=
  ∀ (l : Launch) (dC : Nat → ClassId) (dI : Nat → Nat → Nat) (cy : Nat → ClassId) (ad : Nat → Nat) (sz : Nat), adOk ad → l.stackTraces = false → vx_Met l y (.codeWith y cc nL rt hh :: Om) (rmm d mc ms)
    (va_Pc (as.map (rv ad)) (fun U => U.heap.size = sz ∧ va_P (dC, dI) vwCl (wo cy ad L f) U.heap ∧ va_K (dC, dI) vwCl (tyl cy) U ∧ vD (fun _ => True) cy ad L f ∧ Ev cy ad (va_A (wo cy ad L f) sz) U U.heap))
    (fun _ st oc t => (∃ (r : Option Value) (L' : List Nat) (f' : Nat → AC), oc = .returned (r.map (rv ad)) ∧ Po r L' f' ∧ va_P (dC, dI) vwCl (wo cy ad L' f') t.heap ∧ vD (va_A (wo cy ad L f) sz) cy ad L' f') ∧ va_F (va_A (wo cy ad L f) sz) st t)
    (fun _ _ _ => False) mc ms (va_A (wo cy ad L f) sz)
section CAT
variable {own : String} {cc : ByteArray} {nL : Nat} {rt : Option FieldType} {hh : List (Nat × Nat × Nat × Nat)} {d mc ms : Nat} {Po : AT} {X : XT} {ce sl pc : Nat} {L : List Nat} {f : Nat → AC} {lv : List (Option Value)} {st : List Value}
theorem Hx.C (C : Hx own cc nL rt hh d mc ms Po X) : Cx own cc nL rt false d mc ms Po X := by
  obtain ⟨p, l, e, s, m, args, below, meth, c, dC, dI, cy, ad, A, Q, w0, hF, hK, hA, hE, had, hst, htab, hret, hX⟩ := C
  exact ⟨p, l, e, s, m, args, below, meth, c, dC, dI, cy, ad, A, Q, w0, hF, (fun h => by cases h), hK, hA, hE, had, hret, hX⟩
theorem AW.of {y : MethodName} {as : List Value} (hy : plainName y.cls = true) (has : ∀ v ∈ as, v.category = 1) (hn : as.length ≤ nL)
    (body : ∀ X : XT, Hx y.cls cc nL rt hh d mc ms Po X → X 0 0 L f 0 (as.map some ++ List.replicate (nL - as.length) none) []) : AW y cc nL rt hh d mc ms as L f Po := by
  intro l dC dI cy ad sz had hst
  refine vx_ofWH (cc := cc) (maxL := nL) (ret := rt) (hh := hh) hy rfl ?_
  intro p e s m args below meth c s₁ B hml hv
  obtain ⟨rfl, hsz, hP, hK, hD0, hE⟩ := hv
  have hx := B.exec
  have hb := B.bytes
  have hr := B.returns
  have hts := atoms_spec (ws := .codeWith y cc nL rt hh :: Om) B.pre
  have htab := vx_table (x := y) B (hts _ List.mem_cons_self)
  have hown : s.vm.findClass y.cls = some m.cls := findClass_of_methodNamed B.named
  subst hsz
  have hD : vD (va_A (wo cy ad L f) s.heap.size) cy ad L f := ⟨hD0.1.self (sz := s.heap.size), hD0.2⟩
  generalize hAe : va_A (wo cy ad L f) s.heap.size = A at hD hE ⊢
  have hA : ∀ q : Nat, s.heap.size ≤ q → A q := fun q h => by rw [← hAe]; exact Or.inr h
  have hS : va_S A s.heap s.heap [] := va_S.rf
  rw [lg_entry_eq]
  refine body _ ⟨p, l, e, s, m, (as.map (rv ad)).toArray, below, meth, c, dC, dI, cy, ad, A, _, Cond.codeWith y cc nL rt hh, ⟨hx, hb, hml, hown, hts⟩, hK, hA, hE, had, hst, htab, ?_, rfl⟩ s.heap [] _ hP hD hS (al_entry ad as nL has hn)
  intro ins r L' f' H locs pc ls hrk hdg hpo hP' hD' hS'
  have hq : ∀ t : State, t.heap = H → s.WarmedH t.vm → (∃ (r_1 : Option Value) (L'_1 : List Nat) (f'_1 : Nat → AC), (Outcome.returned (r.map (rv ad))) = .returned (r_1.map (rv ad)) ∧ Po r_1 L'_1 f'_1 ∧ va_P (dC, dI) vwCl (wo cy ad L'_1 f'_1) t.heap ∧ vD A cy ad L'_1 f'_1) ∧ va_F A s t := fun t ht _ => ⟨⟨r, L', f', rfl, hpo, by rw [ht]; exact hP', hD'⟩, hS'.F ht⟩
  refine vx_ret ?_
  rcases hrk with ⟨rfl, x, ty, rfl, rfl, hn⟩ | ⟨rfl, x, rfl, rfl⟩ | ⟨rfl, rfl, rfl⟩ | ⟨rfl, ty, rfl, hty, hrr⟩
  · exact W.zret hx hb hr hn hq hS'.2.2 hdg
  · exact W.lret hx hb hr hq hS'.2.2 hdg
  · exact W.vret hx hb hr hq hS'.2.2 hdg
  · rcases hrr with rfl | ⟨k, rfl⟩
    · exact W.aret hx hb hr hty (Or.inl rfl) hq hS'.2.2 hdg
    · exact W.aret hx hb hr hty (Or.inr ⟨_, rfl⟩) hq hS'.2.2 hdg
/-- a call of one that throws, and a row of the table catches -/
theorem Hx.tryV (C : Hx own cc nL rt hh d mc ms Po X) {y : MethodName} {cc2 : ByteArray} {nL2 : Nat} {rt2 : Option FieldType} {d2 mc2 ms2 idx n k ci : Nat} {as fs : List Value} {PX2 : String → List Nat → (Nat → AC) → Prop} {T : u_T} {N : Nat} (M : XM y cc2 nL2 rt2 d2 mc2 ms2 (.ref k :: as) L f PX2) (cw : CW y cc2 nL2 rt2 n) (w1 : Cond.methodLink own idx y ∈ Om) (w2 : Cond.instanceMethod y ∈ Om) (w3 : Cond.selects y.cls y y ∈ Om) (dg : decode cc pc = .ok (.invokevirtual idx, 3)) (hk : k ∈ L) (hf : f k = .inr (ci, fs)) (hc : vwCl[ci]? = some (y.cls, T, N)) (hn : as.length = n) (hd : d2 + 1 ≤ d) (h1 : ce + mc2 ≤ mc) (h2 : sl + ms2 ≤ ms) (hs : (st.map fun v => v.category).sum ≤ 8) {st0 : List Value} (hst : st0 = as.reverse ++ .ref k :: st)
    (kk : ∀ (E : String) (L' : List Nat) (f' : Nat → AC), PX2 E L' f' → ∃ p' : Nat, HW own pc E hh p' ∧ ∀ q : Nat, X (ce + mc2) (sl + ms2) L' f' p' lv [.ref q]) : X ce sl L f pc lv st0 := by
  obtain ⟨p, l, e, s, m, args, below, meth, c, dC, dI, cy, ad, A, Q, w0, ⟨hx, hb, hml, hown, hts⟩, hK, hA, hE, had, hstk, htab, hret, rfl⟩ := C
  intro H locs ls hP hD hS hl
  subst hst
  obtain ⟨c1, c2, c3, c4, c5, c6⟩ := cw
  obtain ⟨i, hi, hwk⟩ := wo_get (cy := cy) (ad := ad) (f := f) hk (hD.2.obj hk hf)
  rw [hf] at hwk
  have hg : GoodIn (w0 :: Om) (wsV own idx y.cls y (Cond.code y cc2 nL2 rt2 :: Om)) := by
    intro w hw
    rcases List.mem_append.mp hw with h | h
    · simp only [List.mem_cons, List.not_mem_nil, or_false] at h
      rcases h with rfl | rfl | rfl | rfl
      · exact Om_w w1
      · exact Om_w w2
      · exact Om_w w3
      · exact Om_w c1
    · rcases List.mem_cons.mp h with rfl | h
      · exact Om_w c2
      · exact Om_w h
  have hstk2 : (as.reverse ++ .ref k :: st).map (rv ad) = (as.map (rv ad)).reverse ++ .ref (ad k) :: st.map (rv ad) := by
    rw [List.map_append, List.map_reverse]
    rfl
  have hr := vx_runV (R := rmm d mc ms) (p := p) (e := e) (below := below) (meth := meth) (locs := locs) (cells := ce) (slots := sl) (g := F0 m pc ls ((as.reverse ++ .ref k :: st).map (rv ad))) (As := as.map (rv ad)) (rest := st.map (rv ad)) (b := ad k) (C := y.cls) ⟨hx, hb, hml, hown, hts⟩ (M l dC dI cy ad H.size had hstk) (cwV n hts hg rfl rfl rfl ⟨rfl, c3, c4, c5⟩ ⟨hd, by show 8 + (nL2 + 11) + (64 * d2 + 12) ≤ 64 * d + 12; omega⟩) ⟨call_fb, va_recv hK hP hc hwk, call_pre hP hD hS hA hK hE⟩ rfl (by rw [List.length_map]; exact hn) hl.1 hstk2 (lv_room (cat_sum hs)) dg ⟨h1, h2⟩
  have hF := call_free hD hS hA
  intro T1 hT1 X1
  rcases hr T1 hT1 X1 with ⟨v, st₀, t, T', Lc, h0, X', hL, e1, e2, hfl, stp⟩ | ⟨q, st₀, t, T', Lc, E, ce', h0, X', hL, e1, e2, ⟨⟨L', f', hpo, hP1, hD1⟩, hz, hkp⟩, hcell, hvm, hcls, stp⟩
  · exact hfl.elim
  · rw [h0] at hz hkp
    have hS' : va_S A s.heap T'.heap (locs ++ Lc) := by
      refine ⟨Nat.le_trans hS.1 (by rw [e1]; exact hz), fun q h1 h2 => ?_, fun q hq => ?_⟩
      · rw [e1, hkp q (Nat.lt_of_lt_of_le h1 hS.1) (fun z => h2 (hF q z))]
        exact hS.2.1 q h1 h2
      · rcases List.mem_append.mp hq with h | h
        · exact hS.2.2 q h
        · exact hF _ (hL q h)
    obtain ⟨p', hw, kk1⟩ := kk E L' f' hpo
    have hpl : e.platform.magicAccessors = ({} : Platform).magicAccessors := by rw [X'.admits.platform]
    obtain ⟨vm', hW', hgo⟩ := hw_go (f := F0 m pc ls (st.map (rv ad))) (a := q) (cell := ce') hpl hown (fun w hw => hts w (List.mem_cons_of_mem _ hw)) hE.2.2.2.2.2.2.2.2.2.2.1 hE.2.2.2.2.2.2.2.2.2.2.2 hvm hcls hh p' ((T'.setTop (F0 m pc ls (st.map (rv ad)))).pushFrame (.throwing q)) hw X'.warmed (by show T'.heap[q]? = _; rw [e1]; exact hcell)
    obtain ⟨t2, a1, b1⟩ := kk1 (q + 2000) T'.heap (locs ++ Lc) ls (by rw [e1]; exact hP1) ⟨hD1.1.weaken (fun _ _ _ h => hF _ h), hD1.2⟩ hS' hl (T'.setVm vm') rfl (X'.noted hW')
    refine ⟨t2, stp.trans (hw_step (g := F0 m pc ls (st.map (rv ad))) X'.here (pc := p') (vm' := vm') (fun Q G dd acts => ?_) ?_), b1⟩
    · rw [Jvm.W.findHandler_eq (meth := meth) (code := c) X'.method' X'.code, htab]
      exact hgo Q G dd acts
    · have hq9 : ad (q + 2000) = q := by rw [had _ (Nat.le_add_left _ _)]; exact Nat.add_sub_cancel _ _
      have e9 : ([Value.ref (q + 2000)] : List Value).map (rv ad) = [.ref q] := by
        show [Value.ref (ad (q + 2000))] = _
        rw [hq9]
      rw [e9] at a1
      exact a1
/-- a static call of one with a table -/
theorem Hx.callW (C : Hx own cc nL rt hh d mc ms Po X) {y : MethodName} {cc2 : ByteArray} {nL2 : Nat} {rt2 : Option FieldType} {h2h : List (Nat × Nat × Nat × Nat)} {d2 mc2 ms2 idx n : Nat} {as : List Value} {Po2 : AT} (M : AW y cc2 nL2 rt2 h2h d2 mc2 ms2 as L f Po2) (c1 : Cond.initialized y.cls ∈ Om) (c2 : Cond.codeWith y cc2 nL2 rt2 h2h ∈ Om) (c3 : y.cls ≠ "java/lang/invoke/MethodHandle" ∧ y.cls ≠ "java/lang/invoke/VarHandle" ∧ (parseMethodDescriptor y.desc).map (fun d => d.parameters.length) = some n) (c6 : nL2 ≤ 40) (w1 : Cond.methodLink own idx y ∈ Om) (w2 : Cond.static y ∈ Om) (dg : decode cc pc = .ok (.invokestatic idx, 3)) (hn : as.length = n) (hd : d2 + 1 ≤ d) (h1 : ce + mc2 ≤ mc) (h2 : sl + ms2 ≤ ms) (hs : (st.map fun v => v.category).sum ≤ 8) {st0 : List Value} (hst : st0 = as.reverse ++ st)
    (kk : ∀ (r : Option Value) (L' : List Nat) (f' : Nat → AC), Po2 r L' f' → X (ce + mc2) (sl + ms2) L' f' (pc + 3) lv (r.toList ++ st)) : X ce sl L f pc lv st0 := by
  obtain ⟨p, l, e, s, m, args, below, meth, c, dC, dI, cy, ad, A, Q, w0, ⟨hx, hb, hml, hown, hts⟩, hK, hA, hE, had, hstk, htab, hret, rfl⟩ := C
  intro H locs ls hP hD hS hl
  subst hst
  have hg : GoodIn (w0 :: Om) (va_wsS own idx y (Cond.codeWith y cc2 nL2 rt2 h2h :: Om)) := by
    intro w hw
    rcases List.mem_append.mp hw with h | h
    · simp only [List.mem_cons, List.not_mem_nil, or_false] at h
      rcases h with rfl | rfl | rfl
      · exact Om_w w1
      · exact Om_w w2
      · exact Om_w c1
    · rcases List.mem_cons.mp h with rfl | h
      · exact Om_w c2
      · exact Om_w h
  have hr := vx_runSX (R := rmm d mc ms) (p := p) (e := e) (below := below) (meth := meth) (locs := locs) (cells := ce) (slots := sl) (g := F0 m pc ls ((as.reverse ++ st).map (rv ad))) (As := as.map (rv ad)) (rest := st.map (rv ad)) ⟨hx, hb, hml, hown, hts⟩ (M l dC dI cy ad H.size had hstk) (vx_cwSW n hts hg rfl rfl rfl c3 ⟨hd, by show 8 + (nL2 + 11) + (64 * d2 + 12) ≤ 64 * d + 12; omega⟩) ⟨call_fb, call_pre hP hD hS hA hK hE⟩ rfl (by rw [List.length_map]; exact hn) hl.1 (by show (as.reverse ++ st).map (rv ad) = _; rw [List.map_append, List.map_reverse]) (lv_room (cat_sum hs)) dg ⟨h1, h2⟩
  refine call_go (a := #[]) (fun T hT XX => ?_) hD hS hA hl kk
  rcases hr T hT XX with h | ⟨q, st₀, t, T', Lc, E, ce', h0, X', hL, e1, e2, hfl, -⟩
  · exact h
  · exact hfl.elim
end CAT
