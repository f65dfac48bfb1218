
/-- the texts that the class and the reference name: where they are named, and their bytes -/
def strs : List (String × Nat × String × List Int32) := [("PlainWords$Thing", 7, "you", [121, 111, 117]), ("PlainWords$Thing", 9, "we", [119, 101]), ("PlainWords$Thing", 11, "they", [116, 104, 101, 121]), ("PlainWords$Thing", 13, "must", [109, 117, 115, 116]), ("PlainWords$Thing", 15, "not", [110, 111, 116]), ("PlainWords$Thing", 17, "may", [109, 97, 121]), ("PlainWords$Thing", 19, "act", [97, 99, 116]), ("PlainWords$Thing", 21, "and", [97, 110, 100]), ("PlainWords$Thing", 23, "or", [111, 114]), ("PlainWords$Thing", 25, "be", [98, 101]), ("PlainWords$Thing", 27, "done", [100, 111, 110, 101]), ("PlainWords$Thing", 29, "by", [98, 121]), ("PlainWords$Thing", 31, "if", [105, 102]), ("PlainWords$Thing", 33, "unless", [117, 110, 108, 101, 115, 115]), ("PlainWords$Thing", 35, "within", [119, 105, 116, 104, 105, 110]), ("PlainWords$Thing", 37, "case", [99, 97, 115, 101]), ("PlainWords$Thing", 39, "", []), ("PlainWordsModel", 141, "not", [110, 111, 116]), ("PlainWordsModel", 149, "case", [99, 97, 115, 101]), ("PlainWordsModel", 154, "and", [97, 110, 100]), ("PlainWordsModel", 159, "or", [111, 114]), ("PlainWordsModel", 164, "you", [121, 111, 117]), ("PlainWordsModel", 166, "we", [119, 101]), ("PlainWordsModel", 168, "they", [116, 104, 101, 121]), ("PlainWordsModel", 170, "may", [109, 97, 121]), ("PlainWordsModel", 172, "must", [109, 117, 115, 116]), ("PlainWordsModel", 174, "act", [97, 99, 116]), ("PlainWordsModel", 185, "be", [98, 101]), ("PlainWordsModel", 187, "done", [100, 111, 110, 101]), ("PlainWordsModel", 189, "by", [98, 121]), ("PlainWordsModel", 191, "if", [105, 102]), ("PlainWordsModel", 199, "unless", [117, 110, 108, 101, 115, 115]), ("PlainWordsModel", 201, "within", [119, 105, 116, 104, 105, 110]), ("PlainWordsModel", 248, "(", [40]), ("PlainWordsModel", 264, ")", [41]), ("PlainWordsModel", 266, ",", [44]), ("PlainWordsModel", 292, ";", [59]), ("PlainWords", 71, "the text is wrong", [116, 104, 101, 32, 116, 101, 120, 116, 32, 105, 115, 32, 119, 114, 111, 110, 103]), ("PlainWords", 119, "there is no such thing to look at", [116, 104, 101, 114, 101, 32, 105, 115, 32, 110, 111, 32, 115, 117, 99, 104, 32, 116, 104, 105, 110, 103, 32, 116, 111, 32, 108, 111, 111, 107, 32, 97, 116]), ("PlainWords", 158, "there is no letter", [116, 104, 101, 114, 101, 32, 105, 115, 32, 110, 111, 32, 108, 101, 116, 116, 101, 114]), ("PlainWords", 163, "there is no such sentence", [116, 104, 101, 114, 101, 32, 105, 115, 32, 110, 111, 32, 115, 117, 99, 104, 32, 115, 101, 110, 116, 101, 110, 99, 101])]
/-- the names of the kinds of arrays -/
def nmA : List String := ["[B", "[I", "[Z", "[J", "[LPlainWords$Cond;", "[Ljava/lang/Object;"]
abbrev mGC : MethodName := ⟨"java/lang/Object", "getClass", "()Ljava/lang/Class;"⟩
/-- the exceptions; which of them is no other -/
def castL : List String := ["java/lang/IllegalArgumentException", "java/lang/IllegalStateException", "java/lang/IndexOutOfBoundsException", "java/util/NoSuchElementException"]
def ncL : List (String × String) := [("java/lang/IndexOutOfBoundsException", "java/lang/IllegalStateException"), ("java/util/NoSuchElementException", "java/lang/IllegalStateException"), ("java/util/NoSuchElementException", "java/lang/IndexOutOfBoundsException")]
/-- .. the statics and classes that the class asks for -/
def Ew (cy : Nat → ClassId) (ad : Nat → Nat) (A : Nat → Prop) (U : State) (H : Heap) : Prop :=
  (∀ (t : Nat) (n : String), nmA[t]? = some n → U.vm.findClass n = some (cy t)) ∧
  ((va_Z "java/util/ArrayList" "DEFAULTCAPACITY_EMPTY_ELEMENTDATA" "[Ljava/lang/Object;" (.ref (ad 17)) A U H ∧ va_T (.object "java/lang/Object") (ad 17) 0 (fun _ => .null) A U H) ∧ va_Z "PlainWords$Cond" "TRUTHS" "[J" (.ref (ad 18)) A U H ∧ va_T .long (ad 18) 6 (fun i => .long (trL0.getD i 0)) A U H) ∧
  (vx_Zq Bundle.tN "UNASSIGNED_STACK" Bundle.steD A U H ∧ vx_Zq Bundle.tN "SUPPRESSED_SENTINEL" Bundle.listD A U H) ∧
  (va_Mi "[Ljava/lang/Object;" (ad 1300) U ∧ va_Nw (.declares mGC) U) ∧ (va_AO "PlainWords$Cond" U ∧ va_AO "java/lang/Object" U) ∧ va_Nw (.castable "PlainWords$Sentence" "java/lang/Object") U ∧ (∀ q ∈ castL, va_Nw (.castable q q) U) ∧ ∀ q ∈ ncL, va_Nc q.1 q.2 U
theorem Ew.moved {cy : Nat → ClassId} {ad : Nat → Nat} {A : Nat → Prop} {s U : State} {H : Heap} (hW : s.WarmedH U.vm) (h : Ew cy ad A s H) : Ew cy ad A U H :=
  ⟨fun t n ht => by rw [hW.alike.findClass]; exact h.1 t n ht, ⟨⟨va_Z.moved hW.alike h.2.1.1.1, va_T.moved hW.alike h.2.1.1.2⟩, va_Z.moved hW.alike h.2.1.2.1, va_T.moved hW.alike h.2.1.2.2⟩, ⟨vx_Zq.moved hW.alike h.2.2.1.1, vx_Zq.moved hW.alike h.2.2.1.2⟩, ⟨h.2.2.2.1.1.moved hW.alike, h.2.2.2.1.2.warmD hW⟩, ⟨h.2.2.2.2.1.1.moved hW.alike, h.2.2.2.2.1.2.moved hW.alike⟩, h.2.2.2.2.2.1.warmC hW, fun q hq => (h.2.2.2.2.2.2.1 q hq).warmC hW, fun q hq => (h.2.2.2.2.2.2.2 q hq).moved hW.alike⟩
theorem Ew.same {cy : Nat → ClassId} {ad : Nat → Nat} {A : Nat → Prop} {s U : State} {H : Heap} (hv : U.vm = s.vm) (h : Ew cy ad A s H) : Ew cy ad A U H :=
  have hal : s.vm.Alike U.vm := by rw [hv]; exact Vm.Alike.refl _
  ⟨fun t n ht => by rw [hv]; exact h.1 t n ht, ⟨⟨va_Z.moved hal h.2.1.1.1, va_T.moved hal h.2.1.1.2⟩, va_Z.moved hal h.2.1.2.1, va_T.moved hal h.2.1.2.2⟩, ⟨vx_Zq.moved hal h.2.2.1.1, vx_Zq.moved hal h.2.2.1.2⟩, ⟨h.2.2.2.1.1.moved hal, h.2.2.2.1.2.same rfl hv.symm⟩, ⟨h.2.2.2.2.1.1.moved hal, h.2.2.2.2.1.2.moved hal⟩, h.2.2.2.2.2.1.same rfl hv.symm, fun q hq => (h.2.2.2.2.2.2.1 q hq).same rfl hv.symm, fun q hq => (h.2.2.2.2.2.2.2 q hq).moved hal⟩
theorem Ew.kept {cy : Nat → ClassId} {ad : Nat → Nat} {A : Nat → Prop} {U : State} {H H1 : Heap} (h : Ew cy ad A U H) (hq : ∀ a : Nat, a < H.size → ¬ A a → H1[a]? = H[a]?) : Ew cy ad A U H1 :=
  ⟨h.1, ⟨⟨va_Z.kept h.2.1.1.1 hq, va_T.kept h.2.1.1.2 hq⟩, va_Z.kept h.2.1.2.1 hq, va_T.kept h.2.1.2.2 hq⟩, ⟨h.2.2.1.1.kept hq, h.2.2.1.2.kept hq⟩, h.2.2.2⟩
theorem Ew.narrow {cy : Nat → ClassId} {ad : Nat → Nat} {A B : Nat → Prop} {U : State} {H : Heap} (h : Ew cy ad A U H) (hAB : ∀ q, B q → A q) : Ew cy ad B U H :=
  ⟨h.1, ⟨⟨va_Z.narrow h.2.1.1.1 hAB, va_T.narrow h.2.1.1.2 hAB⟩, va_Z.narrow h.2.1.2.1 hAB, va_T.narrow h.2.1.2.2 hAB⟩, ⟨h.2.2.1.1.narrow hAB, h.2.2.1.2.narrow hAB⟩, h.2.2.2⟩
/-- what lies outside of the world and is never written -/
def Ev (cy : Nat → ClassId) (ad : Nat → Nat) (A : Nat → Prop) (U : State) (H : Heap) : Prop :=
  (∀ (j : Nat) (q : String × Nat × String × List Int32), strs[j]? = some q → vk_R q.1 q.2.1 q.2.2.1 (ad (1000 + j)) U ∧ va_O "java/lang/String" (ad (1000 + j)) A U H ∧ va_OF "java/lang/String" "coder" "B" (.int 0) (ad (1000 + j)) A U H ∧ va_OF "java/lang/String" "value" "[B" (.ref (ad (1100 + j))) (ad (1000 + j)) A U H ∧ va_T .byte (ad (1100 + j)) q.2.2.2.length (fun i => .int (q.2.2.2.getD i 0)) A U H) ∧
  va_Z "java/lang/String" "COMPACT_STRINGS" "Z" (.int 1) A U H ∧
  (va_Nw (.methodLinkNest "PlainWords$Sentence" 56 yX0_eased "PlainWords") U ∧ va_Nw (.methodLinkNest "PlainWords$Sentence" 68 yX0_alike "PlainWords") U) ∧
  (va_Z "jdk/internal/util/Preconditions" "SIOOBE_FORMATTER" "Ljava/util/function/BiFunction;" .null A U H ∨ va_Z "jdk/internal/util/Preconditions" "SIOOBE_FORMATTER" "Ljava/util/function/BiFunction;" (.ref (ad 1200)) A U H) ∧ Ew cy ad A U H
theorem Ev.moved {cy : Nat → ClassId} {ad : Nat → Nat} {A : Nat → Prop} {s U : State} {H : Heap} (hW : s.WarmedH U.vm) (h : Ev cy ad A s H) : Ev cy ad A U H :=
  ⟨fun j q hq => ⟨(h.1 j q hq).1.warm hW, va_O.moved hW.alike (h.1 j q hq).2.1, va_OF.moved hW.alike (h.1 j q hq).2.2.1, va_OF.moved hW.alike (h.1 j q hq).2.2.2.1, va_T.moved hW.alike (h.1 j q hq).2.2.2.2⟩, va_Z.moved hW.alike h.2.1, ⟨h.2.2.1.1.warmM hW, h.2.2.1.2.warmM hW⟩, h.2.2.2.1.imp (va_Z.moved hW.alike) (va_Z.moved hW.alike), h.2.2.2.2.moved hW⟩
theorem Ev.same {cy : Nat → ClassId} {ad : Nat → Nat} {A : Nat → Prop} {s U : State} {H : Heap} (hv : U.vm = s.vm) (h : Ev cy ad A s H) : Ev cy ad A U H :=
  have hal : s.vm.Alike U.vm := by rw [hv]; exact Vm.Alike.refl _
  ⟨fun j q hq => ⟨(h.1 j q hq).1.same hv, va_O.moved hal (h.1 j q hq).2.1, va_OF.moved hal (h.1 j q hq).2.2.1, va_OF.moved hal (h.1 j q hq).2.2.2.1, va_T.moved hal (h.1 j q hq).2.2.2.2⟩, va_Z.moved hal h.2.1, ⟨h.2.2.1.1.same rfl hv.symm, h.2.2.1.2.same rfl hv.symm⟩, h.2.2.2.1.imp (va_Z.moved hal) (va_Z.moved hal), h.2.2.2.2.same hv⟩
theorem Ev.kept {cy : Nat → ClassId} {ad : Nat → Nat} {A : Nat → Prop} {U : State} {H H1 : Heap} (h : Ev cy ad A U H) (hq : ∀ a : Nat, a < H.size → ¬ A a → H1[a]? = H[a]?) : Ev cy ad A U H1 :=
  ⟨fun j q hj => ⟨(h.1 j q hj).1, va_O.kept (h.1 j q hj).2.1 hq, va_OF.kept (h.1 j q hj).2.2.1 hq, va_OF.kept (h.1 j q hj).2.2.2.1 hq, va_T.kept (h.1 j q hj).2.2.2.2 hq⟩, va_Z.kept h.2.1 hq, h.2.2.1, h.2.2.2.1.imp (fun z => va_Z.kept z hq) (fun z => va_Z.kept z hq), h.2.2.2.2.kept hq⟩
theorem Ev.narrow {cy : Nat → ClassId} {ad : Nat → Nat} {A B : Nat → Prop} {U : State} {H : Heap} (h : Ev cy ad A U H) (hAB : ∀ q, B q → A q) : Ev cy ad B U H :=
  ⟨fun j q hj => ⟨(h.1 j q hj).1, va_O.narrow (h.1 j q hj).2.1 hAB, va_OF.narrow (h.1 j q hj).2.2.1 hAB, va_OF.narrow (h.1 j q hj).2.2.2.1 hAB, va_T.narrow (h.1 j q hj).2.2.2.2 hAB⟩, va_Z.narrow h.2.1 hAB, h.2.2.1, h.2.2.2.1.imp (fun z => va_Z.narrow z hAB) (fun z => va_Z.narrow z hAB), h.2.2.2.2.narrow hAB⟩
/-- the kinds of arrays -/
def tyl (cy : Nat → ClassId) : List (ClassId × FieldType) := [(cy 0, .byte), (cy 1, .int), (cy 2, .boolean), (cy 3, .long), (cy 4, .object "PlainWords$Cond"), (cy 5, .object "java/lang/Object")]
def adOk (ad : Nat → Nat) : Prop := ∀ k, 2000 ≤ k → ad k = k - 2000
abbrev rmm (d mc ms : Nat) : Room := { frames := d, cells := mc, slots := ms, locals := 64 * d + 12 }
abbrev AT : Type := Option Value → List Nat → (Nat → AC) → Prop
/-- the walk, by index: cells and slots used, the world, where, the locals, the stack -/
abbrev XT : Type := Nat → Nat → List Nat → (Nat → AC) → Nat → List (Option Value) → List Value → Prop
def VV (p : Program) (l : Launch) (e : Env) (R : Room) (s : State) (m : MethodId) (args : Array Value) (below : List Frame) (meth : Method) (c : Code) (dC : Nat → ClassId) (dI : Nat → Nat → Nat) (cy : Nat → ClassId) (ad : Nat → Nat) (A : Nat → Prop) (nL : Nat) (Q : State → Prop) : XT := fun ce sl L f pc lv st =>
  ∀ (H : Heap) (locs : List Loc) (ls : Array Slot), va_P (dC, dI) vwCl (wo cy ad L f) H → vD A cy ad L f → va_S A s.heap H locs → lv_has ls nL (al ad lv) → W p l e R s m args below meth c H locs ce sl Q (F0 m pc ls (st.map (rv ad)))
/-- which return answers what -/
def RK (rt : Option FieldType) (ins : Instr) (r : Option Value) : Prop :=
  (ins = .ireturn ∧ ∃ x ty, r = some (.int x) ∧ rt = some ty ∧ narrow ty (.int x) = .int x) ∨ (ins = .lreturn ∧ ∃ x, r = some (.long x) ∧ rt = some .long) ∨ (ins = .return_ ∧ r = none ∧ rt = none) ∨
  (ins = .areturn ∧ ∃ ty, rt = some ty ∧ ((∃ n, ty = .object n) ∨ ∃ t, ty = .array t) ∧ (r = some .null ∨ ∃ k, r = some (.ref k)))
/-- what a walk knows -/
def Cx (own : String) (cc : ByteArray) (nL : Nat) (rt : Option FieldType) (ini : Bool) (d mc ms : Nat) (Po : AT) (X : XT) : Prop :=
  ∃ (p : Program) (l : Launch) (e : Env) (s : State) (m : MethodId) (args : Array Value) (below : List Frame) (meth : Method) (c : Code) (dC : Nat → ClassId) (dI : Nat → Nat → Nat) (cy : Nat → ClassId) (ad : Nat → Nat) (A : Nat → Prop) (Q : State → Prop) (w0 : Cond),
    CallFix p m c cc nL s args (w0 :: Om) own ∧ (ini = true → meth.name = "<init>") ∧ va_K (dC, dI) vwCl (tyl cy) s ∧ (∀ q, s.heap.size ≤ q → A q) ∧ Ev cy ad A s s.heap ∧ adOk ad ∧
    (∀ (ins : Instr) (r : Option Value) (L : List Nat) (f : Nat → AC) (H : Heap) (locs : List Loc) (pc : Nat) (ls : Array Slot), RK rt ins r → decode cc pc = .ok (ins, 1) → Po r L f → va_P (dC, dI) vwCl (wo cy ad L f) H → vD A cy ad L f → va_S A s.heap H locs → W p l e (rmm d mc ms) s m args below meth c H locs mc ms Q (F0 m pc ls ((r.map (rv ad)).toList))) ∧
    X = VV p l e (rmm d mc ms) s m args below meth c dC dI cy ad A nL Q
/-- a method's contract by index: from the world L, f it returns with Po, in d frames, mc cells, ms slots -/
def AM (y : MethodName) (cc : ByteArray) (nL : Nat) (rt : Option FieldType) (d mc ms : Nat) (as : List Value) (L : List Nat) (f : Nat → AC) (Po : AT) : Prop :=
  ∀ (l : Launch) (dC : Nat → ClassId) (dI : Nat → Nat → Nat) (cy : Nat → ClassId) (ad : Nat → Nat) (sz : Nat), adOk ad → Met l y (.code y cc nL rt :: Om) (rmm d mc ms)
    (va_Pc (as.map (rv ad)) (fun U => U.heap.size = sz ∧ va_P (dC, dI) vwCl (wo cy ad L f) U.heap ∧ va_K (dC, dI) vwCl (tyl cy) U ∧ vD (fun _ => True) cy ad L f ∧ Ev cy ad (va_A (wo cy ad L f) sz) U U.heap))
    (fun _ st oc t => (∃ (r : Option Value) (L' : List Nat) (f' : Nat → AC), oc = .returned (r.map (rv ad)) ∧ Po r L' f' ∧ va_P (dC, dI) vwCl (wo cy ad L' f') t.heap ∧ vD (va_A (wo cy ad L f) sz) cy ad L' f') ∧ va_F (va_A (wo cy ad L f) sz) st t)
    mc ms (va_A (wo cy ad L f) sz)
theorem lg_sl_len (vs : List Value) (h : ∀ v ∈ vs, v.category = 1) : (lg_sl vs).length = vs.length := by
  induction vs with
  | nil => rfl
  | cons v t ih =>
    have h1 : v.category = 1 := h v List.mem_cons_self
    have h2 := ih (fun w hw => h w (List.mem_cons_of_mem _ hw))
    unfold lg_sl at h2 ⊢
    rw [List.flatMap_cons, List.length_append, h2, h1]
    simp
    omega
theorem lv_args_mem (vs : List Value) (h : ∀ v ∈ vs, v.category = 1) : ∀ (i0 i : Nat) (v : Value), vs[i]? = some v → (i0 + i, v) ∈ lv_args i0 vs := by
  induction vs with
  | nil => intro i0 i v hv; simp at hv
  | cons w t ih =>
    intro i0 i v hv
    have h1 : w.category = 1 := h w List.mem_cons_self
    unfold lv_args
    cases i with
    | zero => simp at hv; subst hv; exact List.mem_cons_self
    | succ i =>
      rw [List.getElem?_cons_succ] at hv
      refine List.mem_cons_of_mem _ ?_
      rw [h1]
      have := ih (fun w hw => h w (List.mem_cons_of_mem _ hw)) (i0 + 1) i v hv
      rw [show i0 + (i + 1) = i0 + 1 + i by omega]
      simpa using this
theorem rv_cat {ad : Nat → Nat} {v : Value} : (rv ad v).category = v.category := by cases v <;> rfl
theorem al_entry (ad : Nat → Nat) (as : List Value) (nL : Nat) (has : ∀ v ∈ as, v.category = 1) (hn : as.length ≤ nL) : lv_has ((lg_sl (as.map (rv ad)) ++ List.replicate (nL - (lg_sl (as.map (rv ad))).length) Slot.unset).toArray) nL (al ad (as.map some ++ List.replicate (nL - as.length) none)) := by
  have hc : ∀ v ∈ as.map (rv ad), v.category = 1 := by
    intro v hv
    obtain ⟨w, hw, rfl⟩ := List.mem_map.mp hv
    rw [rv_cat]
    exact has w hw
  have h0 := lv_entry (as.map (rv ad)) (n := nL) (by rw [lg_sl_len _ hc, List.length_map]; exact hn)
  refine ⟨h0.1, h0.2.1, fun q hq => ?_⟩
  obtain ⟨v, h1, h2⟩ := al_mem.mp hq
  by_cases hl : q.1 < as.length
  · rw [List.getElem?_append_left (by rw [List.length_map]; exact hl), List.getElem?_map] at h1
    cases hv : as[q.1]? with
    | none => rw [hv] at h1; cases h1
    | some w =>
      rw [hv] at h1
      cases h1
      have := lv_args_mem (as.map (rv ad)) hc 0 q.1 (rv ad v) (by rw [List.getElem?_map, hv]; rfl)
      rw [Nat.zero_add, ← h2] at this
      exact h0.2.2 q this
  · rw [List.getElem?_append_right (by rw [List.length_map]; omega)] at h1
    have := List.eq_of_mem_replicate (List.mem_of_getElem? h1)
    cases this
theorem AM.of {y : MethodName} {cc : ByteArray} {nL : Nat} {rt : Option FieldType} {d mc ms : Nat} {as : List Value} {L : List Nat} {f : Nat → AC} {Po : AT} (hy : plainName y.cls = true) (has : ∀ v ∈ as, v.category = 1) (hn : as.length ≤ nL) (ini : Bool) (hini : ini = true → y.name = "<init>")
    (body : ∀ X : XT, Cx y.cls cc nL rt ini d mc ms Po X → X 0 0 L f 0 (as.map some ++ List.replicate (nL - as.length) none) []) : AM y cc nL rt d mc ms as L f Po := by
  intro l dC dI cy ad sz had
  refine Met.ofW (cc := cc) (maxL := nL) (ret := rt) hy rfl ?_
  intro p e s m args below meth c s₁ B hml hv
  obtain ⟨rfl, hsz, hP, hK, hD0, hE⟩ := hv
  have hx := B.exec
  have hb := B.bytes
  have hr := B.returns
  have hlocks := B.notSynchronized
  have hts := atoms_spec (ws := .code y cc nL rt :: Om) B.pre
  have hown : s.vm.findClass y.cls = some m.cls := findClass_of_methodNamed B.named
  subst hsz
  have hD : vD (va_A (wo cy ad L f) s.heap.size) cy ad L f := ⟨hD0.1.self (sz := s.heap.size), hD0.2⟩
  generalize hAe : va_A (wo cy ad L f) s.heap.size = A at hD hE ⊢
  have hA : ∀ q : Nat, s.heap.size ≤ q → A q := fun q h => by rw [← hAe]; exact Or.inr h
  have hS : va_S A s.heap s.heap [] := va_S.rf
  rw [lg_entry_eq]
  refine body _ ⟨p, l, e, s, m, (as.map (rv ad)).toArray, below, meth, c, dC, dI, cy, ad, A, _, Cond.code y cc nL rt, ⟨hx, hb, hml, hown, hts⟩, fun hi => by rw [← hini hi]; exact (name_of_methodNamed B.named B.method).1, hK, hA, hE, had, ?_, rfl⟩ s.heap [] _ hP hD hS (al_entry ad as nL has hn)
  intro ins r L' f' H locs pc ls hrk hdg hpo hP' hD' hS'
  have hq : ∀ t : State, t.heap = H → s.WarmedH t.vm → (∃ (r_1 : Option Value) (L'_1 : List Nat) (f'_1 : Nat → AC), (Outcome.returned (r.map (rv ad))) = .returned (r_1.map (rv ad)) ∧ Po r_1 L'_1 f'_1 ∧ va_P (dC, dI) vwCl (wo cy ad L'_1 f'_1) t.heap ∧ vD A cy ad L'_1 f'_1) ∧ va_F A s t := fun t ht _ => ⟨⟨r, L', f', rfl, hpo, by rw [ht]; exact hP', hD'⟩, hS'.F ht⟩
  rcases hrk with ⟨rfl, x, ty, rfl, rfl, hn⟩ | ⟨rfl, x, rfl, rfl⟩ | ⟨rfl, rfl, rfl⟩ | ⟨rfl, ty, rfl, hty, hrr⟩
  · exact W.zret hx hb hr hn hq hS'.2.2 hdg
  · exact W.lret hx hb hr hq hS'.2.2 hdg
  · exact W.vret hx hb hr hq hS'.2.2 hdg
  · rcases hrr with rfl | ⟨k, rfl⟩
    · exact W.aret hx hb hr hty (Or.inl rfl) hq hS'.2.2 hdg
    · exact W.aret hx hb hr hty (Or.inr ⟨_, rfl⟩) hq hS'.2.2 hdg

section ROWS
variable {own : String} {cc : ByteArray} {nL : Nat} {rt : Option FieldType} {ini : Bool} {d mc ms : Nat} {Po : AT} {X : XT} {ce sl pc : Nat} {L : List Nat} {f : Nat → AC} {lv : List (Option Value)} {st : List Value}
theorem Cx.iconst (C : Cx own cc nL rt ini d mc ms Po X) {n : Int} {v : Int32} (dg : decode cc pc = .ok (.iconst n, 1)) (hv : Int32.ofInt n = v)
    (k : X ce sl L f (pc + 1) lv (.int v :: st)) : X ce sl L f pc lv (st) := by
  obtain ⟨p, l, e, s, m, args, below, meth, c, dC, dI, cy, ad, A, Q, w0, ⟨hx, hb, hml, hown, hts⟩, hin0, hK, hA, hE, had, hret, rfl⟩ := C
  intro H locs ls hP hD hS hl
  exact lv_iconst hx hb dg hv (k H locs ls hP hD hS hl)
theorem Cx.bipush (C : Cx own cc nL rt ini d mc ms Po X) {n : Int} {v : Int32} (dg : decode cc pc = .ok (.bipush n, 2)) (hv : (Int8.ofInt n).toInt32 = v)
    (k : X ce sl L f (pc + 2) lv (.int v :: st)) : X ce sl L f pc lv (st) := by
  obtain ⟨p, l, e, s, m, args, below, meth, c, dC, dI, cy, ad, A, Q, w0, ⟨hx, hb, hml, hown, hts⟩, hin0, hK, hA, hE, had, hret, rfl⟩ := C
  intro H locs ls hP hD hS hl
  exact lv_bipush hx hb dg hv (k H locs ls hP hD hS hl)
theorem Cx.sipush (C : Cx own cc nL rt ini d mc ms Po X) {n : Int} {v : Int32} (dg : decode cc pc = .ok (.sipush n, 3)) (hv : (Int16.ofInt n).toInt32 = v)
    (k : X ce sl L f (pc + 3) lv (.int v :: st)) : X ce sl L f pc lv (st) := by
  obtain ⟨p, l, e, s, m, args, below, meth, c, dC, dI, cy, ad, A, Q, w0, ⟨hx, hb, hml, hown, hts⟩, hin0, hK, hA, hE, had, hret, rfl⟩ := C
  intro H locs ls hP hD hS hl
  exact lv_sipush hx hb dg hv (k H locs ls hP hD hS hl)
theorem Cx.lconst (C : Cx own cc nL rt ini d mc ms Po X) {n : Fin 2} {v : Int64} (dg : decode cc pc = .ok (.lconst n, 1)) (hv : Int64.ofNat (n : Nat) = v)
    (k : X ce sl L f (pc + 1) lv (.long v :: st)) : X ce sl L f pc lv (st) := by
  obtain ⟨p, l, e, s, m, args, below, meth, c, dC, dI, cy, ad, A, Q, w0, ⟨hx, hb, hml, hown, hts⟩, hin0, hK, hA, hE, had, hret, rfl⟩ := C
  intro H locs ls hP hD hS hl
  exact lv_lconst hx hb dg hv (k H locs ls hP hD hS hl)
theorem Cx.null (C : Cx own cc nL rt ini d mc ms Po X) (dg : decode cc pc = .ok (.aconst_null, 1))
    (k : X ce sl L f (pc + 1) lv (.null :: st)) : X ce sl L f pc lv (st) := by
  obtain ⟨p, l, e, s, m, args, below, meth, c, dC, dI, cy, ad, A, Q, w0, ⟨hx, hb, hml, hown, hts⟩, hin0, hK, hA, hE, had, hret, rfl⟩ := C
  intro H locs ls hP hD hS hl
  exact lv_null hx hb dg (k H locs ls hP hD hS hl)
theorem Cx.ldci (C : Cx own cc nL rt ini d mc ms Po X) {i : Nat} {v : Int32} (dg : decode cc pc = .ok (.ldc i, 2)) (hw : Cond.constant own i v ∈ Om)
    (k : X ce sl L f (pc + 2) lv (.int v :: st)) : X ce sl L f pc lv (st) := by
  obtain ⟨p, l, e, s, m, args, below, meth, c, dC, dI, cy, ad, A, Q, w0, ⟨hx, hb, hml, hown, hts⟩, hin0, hK, hA, hE, had, hret, rfl⟩ := C
  intro H locs ls hP hD hS hl
  exact lv_ldc hx hb hown (hts _ (List.mem_cons_of_mem _ hw)) dg (k H locs ls hP hD hS hl)
theorem Cx.ldcl (C : Cx own cc nL rt ini d mc ms Po X) {i : Nat} {v : Int64} (dg : decode cc pc = .ok (.ldc2_w i, 3)) (hw : Cond.constantLong own i v ∈ Om)
    (k : X ce sl L f (pc + 3) lv (.long v :: st)) : X ce sl L f pc lv (st) := by
  obtain ⟨p, l, e, s, m, args, below, meth, c, dC, dI, cy, ad, A, Q, w0, ⟨hx, hb, hml, hown, hts⟩, hin0, hK, hA, hE, had, hret, rfl⟩ := C
  intro H locs ls hP hD hS hl
  exact lv_ldc2 hx hb hown (hts _ (List.mem_cons_of_mem _ hw)) dg (k H locs ls hP hD hS hl)
theorem Cx.iload_n (C : Cx own cc nL rt ini d mc ms Po X) {j : Fin 4} {x : Int32} (dg : decode cc pc = .ok (.iload_n j, 1)) (hv : lv[(j : Nat)]? = some (some (.int x)))
    (k : X ce sl L f (pc + 1) lv (.int x :: st)) : X ce sl L f pc lv (st) := by
  obtain ⟨p, l, e, s, m, args, below, meth, c, dC, dI, cy, ad, A, Q, w0, ⟨hx, hb, hml, hown, hts⟩, hin0, hK, hA, hE, had, hret, rfl⟩ := C
  intro H locs ls hP hD hS hl
  exact lv_iload_n hx hb dg rfl (al_has hl hv) (k H locs ls hP hD hS hl)
theorem Cx.iload (C : Cx own cc nL rt ini d mc ms Po X) {j : Nat} {x : Int32} (dg : decode cc pc = .ok (.iload j, 2)) (hv : lv[j]? = some (some (.int x)))
    (k : X ce sl L f (pc + 2) lv (.int x :: st)) : X ce sl L f pc lv (st) := by
  obtain ⟨p, l, e, s, m, args, below, meth, c, dC, dI, cy, ad, A, Q, w0, ⟨hx, hb, hml, hown, hts⟩, hin0, hK, hA, hE, had, hret, rfl⟩ := C
  intro H locs ls hP hD hS hl
  exact lv_iload hx hb dg (al_has hl hv) (k H locs ls hP hD hS hl)
theorem Cx.lload_n (C : Cx own cc nL rt ini d mc ms Po X) {j : Fin 4} {x : Int64} (dg : decode cc pc = .ok (.lload_n j, 1)) (hv : lv[(j : Nat)]? = some (some (.long x)))
    (k : X ce sl L f (pc + 1) lv (.long x :: st)) : X ce sl L f pc lv (st) := by
  obtain ⟨p, l, e, s, m, args, below, meth, c, dC, dI, cy, ad, A, Q, w0, ⟨hx, hb, hml, hown, hts⟩, hin0, hK, hA, hE, had, hret, rfl⟩ := C
  intro H locs ls hP hD hS hl
  exact lv_lload_n hx hb dg rfl (al_has hl hv) (k H locs ls hP hD hS hl)
theorem Cx.lload (C : Cx own cc nL rt ini d mc ms Po X) {j : Nat} {x : Int64} (dg : decode cc pc = .ok (.lload j, 2)) (hv : lv[j]? = some (some (.long x)))
    (k : X ce sl L f (pc + 2) lv (.long x :: st)) : X ce sl L f pc lv (st) := by
  obtain ⟨p, l, e, s, m, args, below, meth, c, dC, dI, cy, ad, A, Q, w0, ⟨hx, hb, hml, hown, hts⟩, hin0, hK, hA, hE, had, hret, rfl⟩ := C
  intro H locs ls hP hD hS hl
  exact lv_lload hx hb dg (al_has hl hv) (k H locs ls hP hD hS hl)
theorem Cx.aload_n (C : Cx own cc nL rt ini d mc ms Po X) {j : Fin 4} {x : Nat} (dg : decode cc pc = .ok (.aload_n j, 1)) (hv : lv[(j : Nat)]? = some (some (.ref x)))
    (k : X ce sl L f (pc + 1) lv (.ref x :: st)) : X ce sl L f pc lv (st) := by
  obtain ⟨p, l, e, s, m, args, below, meth, c, dC, dI, cy, ad, A, Q, w0, ⟨hx, hb, hml, hown, hts⟩, hin0, hK, hA, hE, had, hret, rfl⟩ := C
  intro H locs ls hP hD hS hl
  exact lv_aload_n hx hb dg rfl (al_has hl hv) (k H locs ls hP hD hS hl)
theorem Cx.aload (C : Cx own cc nL rt ini d mc ms Po X) {j : Nat} {x : Nat} (dg : decode cc pc = .ok (.aload j, 2)) (hv : lv[j]? = some (some (.ref x)))
    (k : X ce sl L f (pc + 2) lv (.ref x :: st)) : X ce sl L f pc lv (st) := by
  obtain ⟨p, l, e, s, m, args, below, meth, c, dC, dI, cy, ad, A, Q, w0, ⟨hx, hb, hml, hown, hts⟩, hin0, hK, hA, hE, had, hret, rfl⟩ := C
  intro H locs ls hP hD hS hl
  exact lv_aload hx hb dg (al_has hl hv) (k H locs ls hP hD hS hl)
theorem Cx.aload_nN (C : Cx own cc nL rt ini d mc ms Po X) {j : Fin 4} (dg : decode cc pc = .ok (.aload_n j, 1)) (hv : lv[(j : Nat)]? = some (some (.null)))
    (k : X ce sl L f (pc + 1) lv (.null :: st)) : X ce sl L f pc lv (st) := by
  obtain ⟨p, l, e, s, m, args, below, meth, c, dC, dI, cy, ad, A, Q, w0, ⟨hx, hb, hml, hown, hts⟩, hin0, hK, hA, hE, had, hret, rfl⟩ := C
  intro H locs ls hP hD hS hl
  exact lv_aload_nN hx hb dg rfl (al_has hl hv) (k H locs ls hP hD hS hl)
theorem Cx.aloadN (C : Cx own cc nL rt ini d mc ms Po X) {j : Nat} (dg : decode cc pc = .ok (.aload j, 2)) (hv : lv[j]? = some (some (.null)))
    (k : X ce sl L f (pc + 2) lv (.null :: st)) : X ce sl L f pc lv (st) := by
  obtain ⟨p, l, e, s, m, args, below, meth, c, dC, dI, cy, ad, A, Q, w0, ⟨hx, hb, hml, hown, hts⟩, hin0, hK, hA, hE, had, hret, rfl⟩ := C
  intro H locs ls hP hD hS hl
  exact lv_aloadN hx hb dg (al_has hl hv) (k H locs ls hP hD hS hl)
theorem Cx.istore_n (C : Cx own cc nL rt ini d mc ms Po X) {j : Fin 4} {x : Int32} (dg : decode cc pc = .ok (.istore_n j, 1)) (hn : ((j : Nat) < nL)) (hw : nw lv (j : Nat) = true)
    (k : X ce sl L f (pc + 1) (lv.set (j : Nat) (some (.int x))) st) : X ce sl L f pc lv (.int x :: st) := by
  obtain ⟨p, l, e, s, m, args, below, meth, c, dC, dI, cy, ad, A, Q, w0, ⟨hx, hb, hml, hown, hts⟩, hin0, hK, hA, hE, had, hret, rfl⟩ := C
  intro H locs ls hP hD hS hl
  exact lv_istore_n hx hb dg rfl hl hn rfl (fun ls hl => k H locs ls hP hD hS (al_set hw hl))
theorem Cx.istore (C : Cx own cc nL rt ini d mc ms Po X) {j : Nat} {x : Int32} (dg : decode cc pc = .ok (.istore j, 2)) (hn : (j < nL)) (hw : nw lv j = true)
    (k : X ce sl L f (pc + 2) (lv.set j (some (.int x))) st) : X ce sl L f pc lv (.int x :: st) := by
  obtain ⟨p, l, e, s, m, args, below, meth, c, dC, dI, cy, ad, A, Q, w0, ⟨hx, hb, hml, hown, hts⟩, hin0, hK, hA, hE, had, hret, rfl⟩ := C
  intro H locs ls hP hD hS hl
  exact lv_istore hx hb dg hl hn rfl (fun ls hl => k H locs ls hP hD hS (al_set hw hl))
theorem Cx.lstore_n (C : Cx own cc nL rt ini d mc ms Po X) {j : Fin 4} {x : Int64} (dg : decode cc pc = .ok (.lstore_n j, 1)) (hn : ((j : Nat) + 1 < nL)) (hw : nw lv (j : Nat) = true)
    (k : X ce sl L f (pc + 1) ((lv.set (j : Nat) (some (.long x))).set ((j : Nat) + 1) none) st) : X ce sl L f pc lv (.long x :: st) := by
  obtain ⟨p, l, e, s, m, args, below, meth, c, dC, dI, cy, ad, A, Q, w0, ⟨hx, hb, hml, hown, hts⟩, hin0, hK, hA, hE, had, hret, rfl⟩ := C
  intro H locs ls hP hD hS hl
  exact lv_lstore_n hx hb dg rfl hl hn rfl (fun ls hl => k H locs ls hP hD hS (al_setl hw hl))
theorem Cx.lstore (C : Cx own cc nL rt ini d mc ms Po X) {j : Nat} {x : Int64} (dg : decode cc pc = .ok (.lstore j, 2)) (hn : (j + 1 < nL)) (hw : nw lv j = true)
    (k : X ce sl L f (pc + 2) ((lv.set j (some (.long x))).set (j + 1) none) st) : X ce sl L f pc lv (.long x :: st) := by
  obtain ⟨p, l, e, s, m, args, below, meth, c, dC, dI, cy, ad, A, Q, w0, ⟨hx, hb, hml, hown, hts⟩, hin0, hK, hA, hE, had, hret, rfl⟩ := C
  intro H locs ls hP hD hS hl
  exact lv_lstore hx hb dg hl hn rfl (fun ls hl => k H locs ls hP hD hS (al_setl hw hl))
theorem Cx.astore_n (C : Cx own cc nL rt ini d mc ms Po X) {j : Fin 4} {x : Nat} (dg : decode cc pc = .ok (.astore_n j, 1)) (hn : ((j : Nat) < nL)) (hw : nw lv (j : Nat) = true)
    (k : X ce sl L f (pc + 1) (lv.set (j : Nat) (some (.ref x))) st) : X ce sl L f pc lv (.ref x :: st) := by
  obtain ⟨p, l, e, s, m, args, below, meth, c, dC, dI, cy, ad, A, Q, w0, ⟨hx, hb, hml, hown, hts⟩, hin0, hK, hA, hE, had, hret, rfl⟩ := C
  intro H locs ls hP hD hS hl
  exact lv_astore_n hx hb dg rfl hl hn rfl (fun ls hl => k H locs ls hP hD hS (al_set hw hl))
theorem Cx.astore (C : Cx own cc nL rt ini d mc ms Po X) {j : Nat} {x : Nat} (dg : decode cc pc = .ok (.astore j, 2)) (hn : (j < nL)) (hw : nw lv j = true)
    (k : X ce sl L f (pc + 2) (lv.set j (some (.ref x))) st) : X ce sl L f pc lv (.ref x :: st) := by
  obtain ⟨p, l, e, s, m, args, below, meth, c, dC, dI, cy, ad, A, Q, w0, ⟨hx, hb, hml, hown, hts⟩, hin0, hK, hA, hE, had, hret, rfl⟩ := C
  intro H locs ls hP hD hS hl
  exact lv_astore hx hb dg hl hn rfl (fun ls hl => k H locs ls hP hD hS (al_set hw hl))
theorem Cx.astore_nN (C : Cx own cc nL rt ini d mc ms Po X) {j : Fin 4}  (dg : decode cc pc = .ok (.astore_n j, 1)) (hn : ((j : Nat) < nL)) (hw : nw lv (j : Nat) = true)
    (k : X ce sl L f (pc + 1) (lv.set (j : Nat) (some (.null))) st) : X ce sl L f pc lv (.null :: st) := by
  obtain ⟨p, l, e, s, m, args, below, meth, c, dC, dI, cy, ad, A, Q, w0, ⟨hx, hb, hml, hown, hts⟩, hin0, hK, hA, hE, had, hret, rfl⟩ := C
  intro H locs ls hP hD hS hl
  exact lv_astore_nN hx hb dg rfl hl hn rfl (fun ls hl => k H locs ls hP hD hS (al_set hw hl))
theorem Cx.astoreN (C : Cx own cc nL rt ini d mc ms Po X) {j : Nat}  (dg : decode cc pc = .ok (.astore j, 2)) (hn : (j < nL)) (hw : nw lv j = true)
    (k : X ce sl L f (pc + 2) (lv.set j (some (.null))) st) : X ce sl L f pc lv (.null :: st) := by
  obtain ⟨p, l, e, s, m, args, below, meth, c, dC, dI, cy, ad, A, Q, w0, ⟨hx, hb, hml, hown, hts⟩, hin0, hK, hA, hE, had, hret, rfl⟩ := C
  intro H locs ls hP hD hS hl
  exact lv_astoreN hx hb dg hl hn rfl (fun ls hl => k H locs ls hP hD hS (al_set hw hl))
theorem Cx.iinc (C : Cx own cc nL rt ini d mc ms Po X) {j : Nat} {n : Int} {x v : Int32} (dg : decode cc pc = .ok (.iinc j n, 3)) (hv : lv[j]? = some (some (.int x))) (hx0 : x + Int32.ofInt n = v) (hn : j < nL) (hw : nw lv j = true)
    (k : X ce sl L f (pc + 3) (lv.set j (some (.int v))) st) : X ce sl L f pc lv st := by
  obtain ⟨p, l, e, s, m, args, below, meth, c, dC, dI, cy, ad, A, Q, w0, ⟨hx, hb, hml, hown, hts⟩, hin0, hK, hA, hE, had, hret, rfl⟩ := C
  intro H locs ls hP hD hS hl
  obtain ⟨i, hi⟩ := List.getElem?_of_mem (al_mem (ad := ad) (q := (j, .int x)).mpr ⟨_, hv, rfl⟩)
  exact lv_iinc hx hb dg hl hi hx0 hn rfl (fun ls hl => k H locs ls hP hD hS (al_set hw hl))
theorem Cx.iadd (C : Cx own cc nL rt ini d mc ms Po X) {x y : Int32} (dg : decode cc pc = .ok (.iadd, 1))
    (k : X ce sl L f (pc + 1) lv (.int (x + y) :: st)) : X ce sl L f pc lv (.int y :: .int x :: st) := by
  obtain ⟨p, l, e, s, m, args, below, meth, c, dC, dI, cy, ad, A, Q, w0, ⟨hx, hb, hml, hown, hts⟩, hin0, hK, hA, hE, had, hret, rfl⟩ := C
  intro H locs ls hP hD hS hl
  exact lv_iadd hx hb dg (k H locs ls hP hD hS hl)
theorem Cx.isub (C : Cx own cc nL rt ini d mc ms Po X) {x y : Int32} (dg : decode cc pc = .ok (.isub, 1))
    (k : X ce sl L f (pc + 1) lv (.int (x - y) :: st)) : X ce sl L f pc lv (.int y :: .int x :: st) := by
  obtain ⟨p, l, e, s, m, args, below, meth, c, dC, dI, cy, ad, A, Q, w0, ⟨hx, hb, hml, hown, hts⟩, hin0, hK, hA, hE, had, hret, rfl⟩ := C
  intro H locs ls hP hD hS hl
  exact lv_isub hx hb dg (k H locs ls hP hD hS hl)
theorem Cx.imul (C : Cx own cc nL rt ini d mc ms Po X) {x y : Int32} (dg : decode cc pc = .ok (.imul, 1))
    (k : X ce sl L f (pc + 1) lv (.int (x * y) :: st)) : X ce sl L f pc lv (.int y :: .int x :: st) := by
  obtain ⟨p, l, e, s, m, args, below, meth, c, dC, dI, cy, ad, A, Q, w0, ⟨hx, hb, hml, hown, hts⟩, hin0, hK, hA, hE, had, hret, rfl⟩ := C
  intro H locs ls hP hD hS hl
  exact lv_imul hx hb dg (k H locs ls hP hD hS hl)
theorem Cx.iand (C : Cx own cc nL rt ini d mc ms Po X) {x y : Int32} (dg : decode cc pc = .ok (.iand, 1))
    (k : X ce sl L f (pc + 1) lv (.int (x &&& y) :: st)) : X ce sl L f pc lv (.int y :: .int x :: st) := by
  obtain ⟨p, l, e, s, m, args, below, meth, c, dC, dI, cy, ad, A, Q, w0, ⟨hx, hb, hml, hown, hts⟩, hin0, hK, hA, hE, had, hret, rfl⟩ := C
  intro H locs ls hP hD hS hl
  exact lv_iand hx hb dg (k H locs ls hP hD hS hl)
theorem Cx.ior (C : Cx own cc nL rt ini d mc ms Po X) {x y : Int32} (dg : decode cc pc = .ok (.ior, 1))
    (k : X ce sl L f (pc + 1) lv (.int (x ||| y) :: st)) : X ce sl L f pc lv (.int y :: .int x :: st) := by
  obtain ⟨p, l, e, s, m, args, below, meth, c, dC, dI, cy, ad, A, Q, w0, ⟨hx, hb, hml, hown, hts⟩, hin0, hK, hA, hE, had, hret, rfl⟩ := C
  intro H locs ls hP hD hS hl
  exact lv_ior hx hb dg (k H locs ls hP hD hS hl)
theorem Cx.ishl (C : Cx own cc nL rt ini d mc ms Po X) {x y : Int32} (dg : decode cc pc = .ok (.ishl, 1))
    (k : X ce sl L f (pc + 1) lv (.int (x <<< (y &&& 31)) :: st)) : X ce sl L f pc lv (.int y :: .int x :: st) := by
  obtain ⟨p, l, e, s, m, args, below, meth, c, dC, dI, cy, ad, A, Q, w0, ⟨hx, hb, hml, hown, hts⟩, hin0, hK, hA, hE, had, hret, rfl⟩ := C
  intro H locs ls hP hD hS hl
  exact lv_ishl hx hb dg (k H locs ls hP hD hS hl)
theorem Cx.ishr (C : Cx own cc nL rt ini d mc ms Po X) {x y : Int32} (dg : decode cc pc = .ok (.ishr, 1))
    (k : X ce sl L f (pc + 1) lv (.int (x >>> (y &&& 31)) :: st)) : X ce sl L f pc lv (.int y :: .int x :: st) := by
  obtain ⟨p, l, e, s, m, args, below, meth, c, dC, dI, cy, ad, A, Q, w0, ⟨hx, hb, hml, hown, hts⟩, hin0, hK, hA, hE, had, hret, rfl⟩ := C
  intro H locs ls hP hD hS hl
  exact lv_ishr hx hb dg (k H locs ls hP hD hS hl)
theorem Cx.idiv (C : Cx own cc nL rt ini d mc ms Po X) {x y : Int32} (dg : decode cc pc = .ok (.idiv, 1)) (hne : ¬ y = 0)
    (k : X ce sl L f (pc + 1) lv (.int (x / y) :: st)) : X ce sl L f pc lv (.int y :: .int x :: st) := by
  obtain ⟨p, l, e, s, m, args, below, meth, c, dC, dI, cy, ad, A, Q, w0, ⟨hx, hb, hml, hown, hts⟩, hin0, hK, hA, hE, had, hret, rfl⟩ := C
  intro H locs ls hP hD hS hl
  exact lv_idiv hx hb dg hne (k H locs ls hP hD hS hl)
theorem Cx.irem (C : Cx own cc nL rt ini d mc ms Po X) {x y : Int32} (dg : decode cc pc = .ok (.irem, 1)) (hne : ¬ y = 0)
    (k : X ce sl L f (pc + 1) lv (.int (x - x / y * y) :: st)) : X ce sl L f pc lv (.int y :: .int x :: st) := by
  obtain ⟨p, l, e, s, m, args, below, meth, c, dC, dI, cy, ad, A, Q, w0, ⟨hx, hb, hml, hown, hts⟩, hin0, hK, hA, hE, had, hret, rfl⟩ := C
  intro H locs ls hP hD hS hl
  exact lv_irem hx hb dg hne (k H locs ls hP hD hS hl)
theorem Cx.land (C : Cx own cc nL rt ini d mc ms Po X) {x y : Int64} (dg : decode cc pc = .ok (.land, 1))
    (k : X ce sl L f (pc + 1) lv (.long (x &&& y) :: st)) : X ce sl L f pc lv (.long y :: .long x :: st) := by
  obtain ⟨p, l, e, s, m, args, below, meth, c, dC, dI, cy, ad, A, Q, w0, ⟨hx, hb, hml, hown, hts⟩, hin0, hK, hA, hE, had, hret, rfl⟩ := C
  intro H locs ls hP hD hS hl
  exact lv_land hx hb dg (k H locs ls hP hD hS hl)
theorem Cx.lor (C : Cx own cc nL rt ini d mc ms Po X) {x y : Int64} (dg : decode cc pc = .ok (.lor, 1))
    (k : X ce sl L f (pc + 1) lv (.long (x ||| y) :: st)) : X ce sl L f pc lv (.long y :: .long x :: st) := by
  obtain ⟨p, l, e, s, m, args, below, meth, c, dC, dI, cy, ad, A, Q, w0, ⟨hx, hb, hml, hown, hts⟩, hin0, hK, hA, hE, had, hret, rfl⟩ := C
  intro H locs ls hP hD hS hl
  exact lv_lor hx hb dg (k H locs ls hP hD hS hl)
theorem Cx.lxor (C : Cx own cc nL rt ini d mc ms Po X) {x y : Int64} (dg : decode cc pc = .ok (.lxor, 1))
    (k : X ce sl L f (pc + 1) lv (.long (x ^^^ y) :: st)) : X ce sl L f pc lv (.long y :: .long x :: st) := by
  obtain ⟨p, l, e, s, m, args, below, meth, c, dC, dI, cy, ad, A, Q, w0, ⟨hx, hb, hml, hown, hts⟩, hin0, hK, hA, hE, had, hret, rfl⟩ := C
  intro H locs ls hP hD hS hl
  exact lv_lxor hx hb dg (k H locs ls hP hD hS hl)
theorem Cx.lcmp (C : Cx own cc nL rt ini d mc ms Po X) {x y : Int64} (dg : decode cc pc = .ok (.lcmp, 1))
    (k : X ce sl L f (pc + 1) lv (.int (lg_cmp x y) :: st)) : X ce sl L f pc lv (.long y :: .long x :: st) := by
  obtain ⟨p, l, e, s, m, args, below, meth, c, dC, dI, cy, ad, A, Q, w0, ⟨hx, hb, hml, hown, hts⟩, hin0, hK, hA, hE, had, hret, rfl⟩ := C
  intro H locs ls hP hD hS hl
  exact W.lcmp hx hb dg (k H locs ls hP hD hS hl)
theorem Cx.lushr (C : Cx own cc nL rt ini d mc ms Po X) {x : Int64} {y : Int32} (dg : decode cc pc = .ok (.lushr, 1))
    (k : X ce sl L f (pc + 1) lv (.long (x.toUInt64 >>> (y.toInt64.toUInt64 &&& Int64.toUInt64 63)).toInt64 :: st)) : X ce sl L f pc lv (.int y :: .long x :: st) := by
  obtain ⟨p, l, e, s, m, args, below, meth, c, dC, dI, cy, ad, A, Q, w0, ⟨hx, hb, hml, hown, hts⟩, hin0, hK, hA, hE, had, hret, rfl⟩ := C
  intro H locs ls hP hD hS hl
  exact lv_lushr hx hb dg rfl (k H locs ls hP hD hS hl)
theorem Cx.i2l (C : Cx own cc nL rt ini d mc ms Po X) {x : Int32} (dg : decode cc pc = .ok (.i2l, 1))
    (k : X ce sl L f (pc + 1) lv (.long x.toInt64 :: st)) : X ce sl L f pc lv (.int x :: st) := by
  obtain ⟨p, l, e, s, m, args, below, meth, c, dC, dI, cy, ad, A, Q, w0, ⟨hx, hb, hml, hown, hts⟩, hin0, hK, hA, hE, had, hret, rfl⟩ := C
  intro H locs ls hP hD hS hl
  exact lv_i2l hx hb dg rfl (k H locs ls hP hD hS hl)
theorem Cx.i2b (C : Cx own cc nL rt ini d mc ms Po X) {x : Int32} (dg : decode cc pc = .ok (.i2b, 1))
    (k : X ce sl L f (pc + 1) lv (.int x.toInt8.toInt32 :: st)) : X ce sl L f pc lv (.int x :: st) := by
  obtain ⟨p, l, e, s, m, args, below, meth, c, dC, dI, cy, ad, A, Q, w0, ⟨hx, hb, hml, hown, hts⟩, hin0, hK, hA, hE, had, hret, rfl⟩ := C
  intro H locs ls hP hD hS hl
  exact lv_i2b hx hb dg rfl (k H locs ls hP hD hS hl)
theorem Cx.dup (C : Cx own cc nL rt ini d mc ms Po X) {va : Value} (dg : decode cc pc = .ok (.dup, 1)) (hc : va.category = 1)
    (k : X ce sl L f (pc + 1) lv (va :: va :: st)) : X ce sl L f pc lv (va :: st) := by
  obtain ⟨p, l, e, s, m, args, below, meth, c, dC, dI, cy, ad, A, Q, w0, ⟨hx, hb, hml, hown, hts⟩, hin0, hK, hA, hE, had, hret, rfl⟩ := C
  intro H locs ls hP hD hS hl
  exact lv_dup hx hb dg (rv_cat.trans hc) (k H locs ls hP hD hS hl)
theorem Cx.pop (C : Cx own cc nL rt ini d mc ms Po X) {va : Value} (dg : decode cc pc = .ok (.pop, 1)) (hc : va.category = 1)
    (k : X ce sl L f (pc + 1) lv (st)) : X ce sl L f pc lv (va :: st) := by
  obtain ⟨p, l, e, s, m, args, below, meth, c, dC, dI, cy, ad, A, Q, w0, ⟨hx, hb, hml, hown, hts⟩, hin0, hK, hA, hE, had, hret, rfl⟩ := C
  intro H locs ls hP hD hS hl
  exact lv_pop hx hb dg (rv_cat.trans hc) (k H locs ls hP hD hS hl)
theorem Cx.dup2 (C : Cx own cc nL rt ini d mc ms Po X) {va vb : Value} (dg : decode cc pc = .ok (.dup2, 1)) (hc : va.category = 1) (hd : vb.category = 1)
    (k : X ce sl L f (pc + 1) lv (va :: vb :: va :: vb :: st)) : X ce sl L f pc lv (va :: vb :: st) := by
  obtain ⟨p, l, e, s, m, args, below, meth, c, dC, dI, cy, ad, A, Q, w0, ⟨hx, hb, hml, hown, hts⟩, hin0, hK, hA, hE, had, hret, rfl⟩ := C
  intro H locs ls hP hD hS hl
  exact lv_dup2_11 hx hb dg (rv_cat.trans hc) (rv_cat.trans hd) (k H locs ls hP hD hS hl)
theorem Cx.if_eq (C : Cx own cc nL rt ini d mc ms Po X) {x : Int32} {off : Int} {tgt : Nat} (dg : decode cc pc = .ok (.ifCond .eq off, 3)) (ht : (pc : Int) + off = (tgt : Int))
    (kt : x = 0 → X ce sl L f tgt lv st) (kf : ¬ x = 0 → X ce sl L f (pc + 3) lv st) : X ce sl L f pc lv (.int x :: st) := by
  obtain ⟨p, l, e, s, m, args, below, meth, c, dC, dI, cy, ad, A, Q, w0, ⟨hx, hb, hml, hown, hts⟩, hin0, hK, hA, hE, had, hret, rfl⟩ := C
  intro H locs ls hP hD hS hl
  exact lv_if_eq hx hb dg ht (fun h => kt h H locs ls hP hD hS hl) (fun h => kf h H locs ls hP hD hS hl)
theorem Cx.icmp_eq (C : Cx own cc nL rt ini d mc ms Po X) {x y : Int32} {off : Int} {tgt : Nat} (dg : decode cc pc = .ok (.if_icmp .eq off, 3)) (ht : (pc : Int) + off = (tgt : Int))
    (kt : x = y → X ce sl L f tgt lv st) (kf : ¬ x = y → X ce sl L f (pc + 3) lv st) : X ce sl L f pc lv (.int y :: .int x :: st) := by
  obtain ⟨p, l, e, s, m, args, below, meth, c, dC, dI, cy, ad, A, Q, w0, ⟨hx, hb, hml, hown, hts⟩, hin0, hK, hA, hE, had, hret, rfl⟩ := C
  intro H locs ls hP hD hS hl
  exact lv_icmp_eq hx hb dg ht (fun h => kt h H locs ls hP hD hS hl) (fun h => kf h H locs ls hP hD hS hl)
theorem Cx.if_ne (C : Cx own cc nL rt ini d mc ms Po X) {x : Int32} {off : Int} {tgt : Nat} (dg : decode cc pc = .ok (.ifCond .ne off, 3)) (ht : (pc : Int) + off = (tgt : Int))
    (kt : ¬ x = 0 → X ce sl L f tgt lv st) (kf : x = 0 → X ce sl L f (pc + 3) lv st) : X ce sl L f pc lv (.int x :: st) := by
  obtain ⟨p, l, e, s, m, args, below, meth, c, dC, dI, cy, ad, A, Q, w0, ⟨hx, hb, hml, hown, hts⟩, hin0, hK, hA, hE, had, hret, rfl⟩ := C
  intro H locs ls hP hD hS hl
  exact lv_if_ne hx hb dg ht (fun h => kt h H locs ls hP hD hS hl) (fun h => kf h H locs ls hP hD hS hl)
theorem Cx.icmp_ne (C : Cx own cc nL rt ini d mc ms Po X) {x y : Int32} {off : Int} {tgt : Nat} (dg : decode cc pc = .ok (.if_icmp .ne off, 3)) (ht : (pc : Int) + off = (tgt : Int))
    (kt : ¬ x = y → X ce sl L f tgt lv st) (kf : x = y → X ce sl L f (pc + 3) lv st) : X ce sl L f pc lv (.int y :: .int x :: st) := by
  obtain ⟨p, l, e, s, m, args, below, meth, c, dC, dI, cy, ad, A, Q, w0, ⟨hx, hb, hml, hown, hts⟩, hin0, hK, hA, hE, had, hret, rfl⟩ := C
  intro H locs ls hP hD hS hl
  exact lv_icmp_ne hx hb dg ht (fun h => kt h H locs ls hP hD hS hl) (fun h => kf h H locs ls hP hD hS hl)
theorem Cx.if_lt (C : Cx own cc nL rt ini d mc ms Po X) {x : Int32} {off : Int} {tgt : Nat} (dg : decode cc pc = .ok (.ifCond .lt off, 3)) (ht : (pc : Int) + off = (tgt : Int))
    (kt : x < 0 → X ce sl L f tgt lv st) (kf : ¬ x < 0 → X ce sl L f (pc + 3) lv st) : X ce sl L f pc lv (.int x :: st) := by
  obtain ⟨p, l, e, s, m, args, below, meth, c, dC, dI, cy, ad, A, Q, w0, ⟨hx, hb, hml, hown, hts⟩, hin0, hK, hA, hE, had, hret, rfl⟩ := C
  intro H locs ls hP hD hS hl
  exact lv_if_lt hx hb dg ht (fun h => kt h H locs ls hP hD hS hl) (fun h => kf h H locs ls hP hD hS hl)
theorem Cx.icmp_lt (C : Cx own cc nL rt ini d mc ms Po X) {x y : Int32} {off : Int} {tgt : Nat} (dg : decode cc pc = .ok (.if_icmp .lt off, 3)) (ht : (pc : Int) + off = (tgt : Int))
    (kt : x < y → X ce sl L f tgt lv st) (kf : ¬ x < y → X ce sl L f (pc + 3) lv st) : X ce sl L f pc lv (.int y :: .int x :: st) := by
  obtain ⟨p, l, e, s, m, args, below, meth, c, dC, dI, cy, ad, A, Q, w0, ⟨hx, hb, hml, hown, hts⟩, hin0, hK, hA, hE, had, hret, rfl⟩ := C
  intro H locs ls hP hD hS hl
  exact lv_icmp_lt hx hb dg ht (fun h => kt h H locs ls hP hD hS hl) (fun h => kf h H locs ls hP hD hS hl)
theorem Cx.if_ge (C : Cx own cc nL rt ini d mc ms Po X) {x : Int32} {off : Int} {tgt : Nat} (dg : decode cc pc = .ok (.ifCond .ge off, 3)) (ht : (pc : Int) + off = (tgt : Int))
    (kt : 0 ≤ x → X ce sl L f tgt lv st) (kf : ¬ 0 ≤ x → X ce sl L f (pc + 3) lv st) : X ce sl L f pc lv (.int x :: st) := by
  obtain ⟨p, l, e, s, m, args, below, meth, c, dC, dI, cy, ad, A, Q, w0, ⟨hx, hb, hml, hown, hts⟩, hin0, hK, hA, hE, had, hret, rfl⟩ := C
  intro H locs ls hP hD hS hl
  exact lv_if_ge hx hb dg ht (fun h => kt h H locs ls hP hD hS hl) (fun h => kf h H locs ls hP hD hS hl)
theorem Cx.icmp_ge (C : Cx own cc nL rt ini d mc ms Po X) {x y : Int32} {off : Int} {tgt : Nat} (dg : decode cc pc = .ok (.if_icmp .ge off, 3)) (ht : (pc : Int) + off = (tgt : Int))
    (kt : y ≤ x → X ce sl L f tgt lv st) (kf : ¬ y ≤ x → X ce sl L f (pc + 3) lv st) : X ce sl L f pc lv (.int y :: .int x :: st) := by
  obtain ⟨p, l, e, s, m, args, below, meth, c, dC, dI, cy, ad, A, Q, w0, ⟨hx, hb, hml, hown, hts⟩, hin0, hK, hA, hE, had, hret, rfl⟩ := C
  intro H locs ls hP hD hS hl
  exact lv_icmp_ge hx hb dg ht (fun h => kt h H locs ls hP hD hS hl) (fun h => kf h H locs ls hP hD hS hl)
theorem Cx.if_gt (C : Cx own cc nL rt ini d mc ms Po X) {x : Int32} {off : Int} {tgt : Nat} (dg : decode cc pc = .ok (.ifCond .gt off, 3)) (ht : (pc : Int) + off = (tgt : Int))
    (kt : 0 < x → X ce sl L f tgt lv st) (kf : ¬ 0 < x → X ce sl L f (pc + 3) lv st) : X ce sl L f pc lv (.int x :: st) := by
  obtain ⟨p, l, e, s, m, args, below, meth, c, dC, dI, cy, ad, A, Q, w0, ⟨hx, hb, hml, hown, hts⟩, hin0, hK, hA, hE, had, hret, rfl⟩ := C
  intro H locs ls hP hD hS hl
  exact lv_if_gt hx hb dg ht (fun h => kt h H locs ls hP hD hS hl) (fun h => kf h H locs ls hP hD hS hl)
theorem Cx.icmp_gt (C : Cx own cc nL rt ini d mc ms Po X) {x y : Int32} {off : Int} {tgt : Nat} (dg : decode cc pc = .ok (.if_icmp .gt off, 3)) (ht : (pc : Int) + off = (tgt : Int))
    (kt : y < x → X ce sl L f tgt lv st) (kf : ¬ y < x → X ce sl L f (pc + 3) lv st) : X ce sl L f pc lv (.int y :: .int x :: st) := by
  obtain ⟨p, l, e, s, m, args, below, meth, c, dC, dI, cy, ad, A, Q, w0, ⟨hx, hb, hml, hown, hts⟩, hin0, hK, hA, hE, had, hret, rfl⟩ := C
  intro H locs ls hP hD hS hl
  exact lv_icmp_gt hx hb dg ht (fun h => kt h H locs ls hP hD hS hl) (fun h => kf h H locs ls hP hD hS hl)
theorem Cx.if_le (C : Cx own cc nL rt ini d mc ms Po X) {x : Int32} {off : Int} {tgt : Nat} (dg : decode cc pc = .ok (.ifCond .le off, 3)) (ht : (pc : Int) + off = (tgt : Int))
    (kt : x ≤ 0 → X ce sl L f tgt lv st) (kf : ¬ x ≤ 0 → X ce sl L f (pc + 3) lv st) : X ce sl L f pc lv (.int x :: st) := by
  obtain ⟨p, l, e, s, m, args, below, meth, c, dC, dI, cy, ad, A, Q, w0, ⟨hx, hb, hml, hown, hts⟩, hin0, hK, hA, hE, had, hret, rfl⟩ := C
  intro H locs ls hP hD hS hl
  exact lv_if_le hx hb dg ht (fun h => kt h H locs ls hP hD hS hl) (fun h => kf h H locs ls hP hD hS hl)
theorem Cx.icmp_le (C : Cx own cc nL rt ini d mc ms Po X) {x y : Int32} {off : Int} {tgt : Nat} (dg : decode cc pc = .ok (.if_icmp .le off, 3)) (ht : (pc : Int) + off = (tgt : Int))
    (kt : x ≤ y → X ce sl L f tgt lv st) (kf : ¬ x ≤ y → X ce sl L f (pc + 3) lv st) : X ce sl L f pc lv (.int y :: .int x :: st) := by
  obtain ⟨p, l, e, s, m, args, below, meth, c, dC, dI, cy, ad, A, Q, w0, ⟨hx, hb, hml, hown, hts⟩, hin0, hK, hA, hE, had, hret, rfl⟩ := C
  intro H locs ls hP hD hS hl
  exact lv_icmp_le hx hb dg ht (fun h => kt h H locs ls hP hD hS hl) (fun h => kf h H locs ls hP hD hS hl)
theorem Cx.goto (C : Cx own cc nL rt ini d mc ms Po X) {off : Int} {tgt : Nat} (dg : decode cc pc = .ok (.goto off, 3)) (ht : (pc : Int) + off = (tgt : Int))
    (k : X ce sl L f tgt lv st) : X ce sl L f pc lv st := by
  obtain ⟨p, l, e, s, m, args, below, meth, c, dC, dI, cy, ad, A, Q, w0, ⟨hx, hb, hml, hown, hts⟩, hin0, hK, hA, hE, had, hret, rfl⟩ := C
  intro H locs ls hP hD hS hl
  exact lv_goto hx hb dg ht (k H locs ls hP hD hS hl)
theorem Cx.ifnonnull (C : Cx own cc nL rt ini d mc ms Po X) {x : Nat} {off : Int} {tgt : Nat} (dg : decode cc pc = .ok (.ifnonnull off, 3)) (ht : (pc : Int) + off = (tgt : Int))
    (k : X ce sl L f (tgt) lv st) : X ce sl L f pc lv (.ref x :: st) := by
  obtain ⟨p, l, e, s, m, args, below, meth, c, dC, dI, cy, ad, A, Q, w0, ⟨hx, hb, hml, hown, hts⟩, hin0, hK, hA, hE, had, hret, rfl⟩ := C
  intro H locs ls hP hD hS hl
  exact lv_ifnonnull hx hb dg ht (k H locs ls hP hD hS hl)
theorem Cx.ifnull (C : Cx own cc nL rt ini d mc ms Po X) {x : Nat} {off : Int} (dg : decode cc pc = .ok (.ifnull off, 3))
    (k : X ce sl L f (pc + 3) lv st) : X ce sl L f pc lv (.ref x :: st) := by
  obtain ⟨p, l, e, s, m, args, below, meth, c, dC, dI, cy, ad, A, Q, w0, ⟨hx, hb, hml, hown, hts⟩, hin0, hK, hA, hE, had, hret, rfl⟩ := C
  intro H locs ls hP hD hS hl
  exact lv_ifnull hx hb dg (k H locs ls hP hD hS hl)
theorem Cx.ifnonnullN (C : Cx own cc nL rt ini d mc ms Po X) {off : Int} (dg : decode cc pc = .ok (.ifnonnull off, 3))
    (k : X ce sl L f (pc + 3) lv st) : X ce sl L f pc lv (.null :: st) := by
  obtain ⟨p, l, e, s, m, args, below, meth, c, dC, dI, cy, ad, A, Q, w0, ⟨hx, hb, hml, hown, hts⟩, hin0, hK, hA, hE, had, hret, rfl⟩ := C
  intro H locs ls hP hD hS hl
  exact lv_ifnonnullN hx hb dg (k H locs ls hP hD hS hl)
theorem Cx.ifnullN (C : Cx own cc nL rt ini d mc ms Po X) {off : Int} {tgt : Nat} (dg : decode cc pc = .ok (.ifnull off, 3)) (ht : (pc : Int) + off = (tgt : Int))
    (k : X ce sl L f (tgt) lv st) : X ce sl L f pc lv (.null :: st) := by
  obtain ⟨p, l, e, s, m, args, below, meth, c, dC, dI, cy, ad, A, Q, w0, ⟨hx, hb, hml, hown, hts⟩, hin0, hK, hA, hE, had, hret, rfl⟩ := C
  intro H locs ls hP hD hS hl
  exact lv_ifnullN hx hb dg ht (k H locs ls hP hD hS hl)
theorem Cx.tableOut (C : Cx own cc nL rt ini d mc ms Po X) {dflt lo hi : Int} {offs : Array Int} {len : Nat} {x : Int32} {tgt : Nat} (dg : decode cc pc = .ok (.tableswitch dflt lo hi offs, len)) (h : x.toInt < lo ∨ hi < x.toInt) (ht : (pc : Int) + dflt = (tgt : Int))
    (k : X ce sl L f tgt lv st) : X ce sl L f pc lv (.int x :: st) := by
  obtain ⟨p, l, e, s, m, args, below, meth, c, dC, dI, cy, ad, A, Q, w0, ⟨hx, hb, hml, hown, hts⟩, hin0, hK, hA, hE, had, hret, rfl⟩ := C
  intro H locs ls hP hD hS hl
  exact lv_tableOut hx hb dg h ht (k H locs ls hP hD hS hl)
theorem Cx.tableIn (C : Cx own cc nL rt ini d mc ms Po X) {dflt lo hi : Int} {offs : Array Int} {len : Nat} {x : Int32} {off : Int} {tgt : Nat} (dg : decode cc pc = .ok (.tableswitch dflt lo hi offs, len)) (h1 : ¬ x.toInt < lo) (h2 : ¬ hi < x.toInt) (ho : offs[(x.toInt - lo).toNat]? = some off) (ht : (pc : Int) + off = (tgt : Int))
    (k : X ce sl L f tgt lv st) : X ce sl L f pc lv (.int x :: st) := by
  obtain ⟨p, l, e, s, m, args, below, meth, c, dC, dI, cy, ad, A, Q, w0, ⟨hx, hb, hml, hown, hts⟩, hin0, hK, hA, hE, had, hret, rfl⟩ := C
  intro H locs ls hP hD hS hl
  exact lv_tableIn hx hb dg h1 h2 ho ht (k H locs ls hP hD hS hl)
theorem Cx.wide (C : Cx own cc nL rt ini d mc ms Po X) {ce2 sl2 : Nat} (h1 : ce ≤ ce2) (h2 : sl ≤ sl2) (k : X ce2 sl2 L f pc lv st) : X ce sl L f pc lv st := by
  obtain ⟨p, l, e, s, m, args, below, meth, c, dC, dI, cy, ad, A, Q, w0, ⟨hx, hb, hml, hown, hts⟩, hin0, hK, hA, hE, had, hret, rfl⟩ := C
  intro H locs ls hP hD hS hl
  exact W.widen h1 h2 (k H locs ls hP hD hS hl)
theorem Cx.iret (C : Cx own cc nL rt ini d mc ms Po X) {x : Int32} {ty : FieldType} (hrt : rt = some ty) (hn : narrow ty (.int x) = .int x) (dg : decode cc pc = .ok (.ireturn, 1)) (h1 : ce ≤ mc) (h2 : sl ≤ ms) (hp : Po (some (.int x)) L f) : X ce sl L f pc lv [(.int x)] := by
  obtain ⟨p, l, e, s, m, args, below, meth, c, dC, dI, cy, ad, A, Q, w0, ⟨hx, hb, hml, hown, hts⟩, hin0, hK, hA, hE, had, hret, rfl⟩ := C
  intro H locs ls hP hD hS hl
  exact W.widen h1 h2 (hret .ireturn (some (.int x)) L f H locs pc ls (Or.inl ⟨rfl, x, ty, rfl, hrt, hn⟩) dg hp hP hD hS)
theorem Cx.lret (C : Cx own cc nL rt ini d mc ms Po X) {x : Int64} (hrt : rt = some .long) (dg : decode cc pc = .ok (.lreturn, 1)) (h1 : ce ≤ mc) (h2 : sl ≤ ms) (hp : Po (some (.long x)) L f) : X ce sl L f pc lv [(.long x)] := by
  obtain ⟨p, l, e, s, m, args, below, meth, c, dC, dI, cy, ad, A, Q, w0, ⟨hx, hb, hml, hown, hts⟩, hin0, hK, hA, hE, had, hret, rfl⟩ := C
  intro H locs ls hP hD hS hl
  exact W.widen h1 h2 (hret .lreturn (some (.long x)) L f H locs pc ls (Or.inr (Or.inl ⟨rfl, x, rfl, hrt⟩)) dg hp hP hD hS)
theorem Cx.vret (C : Cx own cc nL rt ini d mc ms Po X) (hrt : rt = none) (dg : decode cc pc = .ok (.return_, 1)) (h1 : ce ≤ mc) (h2 : sl ≤ ms) (hp : Po (none) L f) : X ce sl L f pc lv [] := by
  obtain ⟨p, l, e, s, m, args, below, meth, c, dC, dI, cy, ad, A, Q, w0, ⟨hx, hb, hml, hown, hts⟩, hin0, hK, hA, hE, had, hret, rfl⟩ := C
  intro H locs ls hP hD hS hl
  exact W.widen h1 h2 (hret .return_ (none) L f H locs pc ls (Or.inr (Or.inr (Or.inl ⟨rfl, rfl, hrt⟩))) dg hp hP hD hS)
theorem Cx.aret (C : Cx own cc nL rt ini d mc ms Po X) {x : Nat} {ty : FieldType} (hrt : rt = some ty) (hty : (∃ n, ty = .object n) ∨ ∃ t, ty = .array t) (dg : decode cc pc = .ok (.areturn, 1)) (h1 : ce ≤ mc) (h2 : sl ≤ ms) (hp : Po (some (.ref x)) L f) : X ce sl L f pc lv [(.ref x)] := by
  obtain ⟨p, l, e, s, m, args, below, meth, c, dC, dI, cy, ad, A, Q, w0, ⟨hx, hb, hml, hown, hts⟩, hin0, hK, hA, hE, had, hret, rfl⟩ := C
  intro H locs ls hP hD hS hl
  exact W.widen h1 h2 (hret .areturn (some (.ref x)) L f H locs pc ls (Or.inr (Or.inr (Or.inr ⟨rfl, ty, hrt, hty, Or.inr ⟨x, rfl⟩⟩))) dg hp hP hD hS)
theorem Cx.aretN (C : Cx own cc nL rt ini d mc ms Po X) {ty : FieldType} (hrt : rt = some ty) (hty : (∃ n, ty = .object n) ∨ ∃ t, ty = .array t) (dg : decode cc pc = .ok (.areturn, 1)) (h1 : ce ≤ mc) (h2 : sl ≤ ms) (hp : Po (some .null) L f) : X ce sl L f pc lv [.null] := by
  obtain ⟨p, l, e, s, m, args, below, meth, c, dC, dI, cy, ad, A, Q, w0, ⟨hx, hb, hml, hown, hts⟩, hin0, hK, hA, hE, had, hret, rfl⟩ := C
  intro H locs ls hP hD hS hl
  exact W.widen h1 h2 (hret .areturn (some .null) L f H locs pc ls (Or.inr (Or.inr (Or.inr ⟨rfl, ty, hrt, hty, Or.inl rfl⟩))) dg hp hP hD hS)
end ROWS
