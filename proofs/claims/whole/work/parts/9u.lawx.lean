/-! the law's own walk: the script lies at 19, outside of the world -/
/-- a cell with its references renumbered -/
def mcl (sg : Nat → Nat) : AC → AC
  | .inl (t, n, .inl g) => .inl (t, n, .inl g)
  | .inl (t, n, .inr (.inl g)) => .inl (t, n, .inr (.inl g))
  | .inl (t, n, .inr (.inr (.inl g))) => .inl (t, n, .inr (.inr (.inl g)))
  | .inl (t, n, .inr (.inr (.inr (.inl g)))) => .inl (t, n, .inr (.inr (.inr (.inl g))))
  | .inl (t, n, .inr (.inr (.inr (.inr g)))) => .inl (t, n, .inr (.inr (.inr (.inr (fun i => (g i).map sg)))))
  | .inr (k, fs) => .inr (k, fs.map (rv sg))
theorem rv_rv (ad sg : Nat → Nat) (v : Value) : rv ad (rv sg v) = rv (fun k => ad (sg k)) v := by cases v <;> rfl
theorem rc_mcl (cy : Nat → ClassId) (ad sg : Nat → Nat) (x : AC) : rc cy ad (mcl sg x) = rc cy (fun k => ad (sg k)) x := by
  rcases x with ⟨t, n, g | g | g | g | g⟩ | ⟨k, fs⟩
  · rfl
  · rfl
  · rfl
  · rfl
  · show (.inl (cy t, n, .inr (.inr (.inr (.inr (fun i => ((g i).map sg).map ad))))) : va_E) = .inl (cy t, n, .inr (.inr (.inr (.inr (fun i => (g i).map (fun k => ad (sg k)))))))
    have e : (fun i => ((g i).map sg).map ad) = fun i => (g i).map (fun k => ad (sg k)) := by
      funext i
      cases g i <;> rfl
    rw [e]
  · show (.inr (k, (fs.map (rv sg)).map (rv ad)) : va_E) = .inr (k, fs.map (rv (fun k => ad (sg k))))
    rw [List.map_map]
    congr 2
    apply List.map_congr_left
    intro v _
    exact rv_rv ad sg v
theorem Ev.congr {cy : Nat → ClassId} {ad ad' : Nat → Nat} {A : Nat → Prop} {U : State} {H : Heap} (h17 : ad' 17 = ad 17) (h18 : ad' 18 = ad 18) (h : ∀ k, 36 ≤ k → ad' k = ad k) (hE : Ev cy ad A U H) : Ev cy ad' A U H := by
  unfold Ev Ew at hE ⊢
  rw [h17, h18, h 1200 (by decide), h 1300 (by decide)]
  refine ⟨fun j q hq => ?_, hE.2⟩
  rw [h (1000 + j) (by omega), h (1100 + j) (by omega)]
  exact hE.1 j q hq
abbrev lwPo : AT := fun r _ _ => r = some (.int (iI 1))
/-- what the law's walk knows -/
def Lx (n : Nat) (sx : Nat → Int) (d mc ms : Nat) (X : XT) : Prop :=
  ∃ (p : Program) (l : Launch) (e : Env) (s : State) (m : MethodId) (args : Array Value) (below : List Frame) (meth : Method) (c : Code) (dC : Nat → ClassId) (dI : Nat → Nat → Nat) (cy : Nat → ClassId) (ad : Nat → Nat) (A : Nat → Prop) (Q : State → Prop) (w0 : Cond),
    CallFix p m c cL_law 7 s args (w0 :: Om) RL ∧ va_K (dC, dI) vwCl (tyl cy) s ∧ (∀ q, s.heap.size ≤ q → A q) ∧ Ev cy ad A s s.heap ∧ adOk ad ∧ l.stackTraces = false ∧ (va_X (ad 19) n (fun j => iI (sx j)) s s.heap ∧ ad 19 < s.heap.size ∧ ¬ A (ad 19)) ∧
    (∀ (ins : Instr) (r : Option Value) (L : List Nat) (f : Nat → AC) (H : Heap) (locs : List Loc) (pc : Nat) (ls : Array Slot), RK (some .boolean) ins r → decode cL_law pc = .ok (ins, 1) → lwPo r L f → va_P (dC, dI) vwCl (wo cy ad L f) H → vD A cy ad L f → va_S A s.heap H locs → W p l e (rmm d mc ms) s m args below meth c H locs mc ms Q (F0 m pc ls ((r.map (rv ad)).toList))) ∧
    X = VV p l e (rmm d mc ms) s m args below meth c dC dI cy ad A 7 Q
section LX
variable {n : Nat} {sx : Nat → Int} {d mc ms : Nat} {X : XT} {ce sl pc : Nat} {L : List Nat} {f : Nat → AC} {lv : List (Option Value)} {st : List Value}
theorem Lx.C (C : Lx n sx d mc ms X) : Cx RL cL_law 7 (some .boolean) false d mc ms lwPo X := by
  obtain ⟨p, l, e, s, m, args, below, meth, c, dC, dI, cy, ad, A, Q, w0, hF, hK, hA, hE, had, hst, hsc, hret, hX⟩ := C
  exact ⟨p, l, e, s, m, args, below, meth, c, dC, dI, cy, ad, A, Q, w0, hF, (fun h => by cases h), hK, hA, hE, had, hret, hX⟩
theorem Lx.scr (C : Lx n sx d mc ms X) {z : Int} (dg : decode cL_law pc = .ok (.iaload, 1)) (h0 : 0 ≤ z) (h1 : z < n) (hn : n ≤ 3072) (kk : X ce sl L f (pc + 1) lv (.int (iI (sx z.toNat)) :: st)) : X ce sl L f pc lv (.int (iI z) :: .ref 19 :: st) := by
  obtain ⟨p, l, e, s, m, args, below, meth, c, dC, dI, cy, ad, A, Q, w0, ⟨hx, hb, hml, hown, hts⟩, hK, hA, hE, had, hst, ⟨hsc, hlt, hna⟩, hret, rfl⟩ := C
  intro H locs ls hP hD hS hl
  obtain ⟨scr, hc, hof, hkn, hsz, hval⟩ := hsc.kept (hS.2.1 _ hlt hna)
  have hcl : (iI z).toNatClampNeg = z.toNat := iI_clamp (by omega)
  refine W.iald hx hb hc hof hkn (v := .int (iI (sx z.toNat))) ?_ ?_ rfl rfl dg (kk H locs ls hP hD hS hl)
  · rw [hsz, hcl, Int32.lt_iff_toInt_lt, iI_toInt (by omega)]
    show ¬ (z < 0 ∨ n ≤ z.toNat)
    omega
  · rw [hcl]
    exact hval _ (by omega)
theorem Lx.scl (C : Lx n sx d mc ms X) (dg : decode cL_law pc = .ok (.arraylength, 1)) (kk : X ce sl L f (pc + 1) lv (.int (iI n) :: st)) : X ce sl L f pc lv (.ref 19 :: st) := by
  obtain ⟨p, l, e, s, m, args, below, meth, c, dC, dI, cy, ad, A, Q, w0, ⟨hx, hb, hml, hown, hts⟩, hK, hA, hE, had, hst, ⟨hsc, hlt, hna⟩, hret, rfl⟩ := C
  intro H locs ls hP hD hS hl
  obtain ⟨scr, hc, hof, hkn, hsz, hval⟩ := hsc.kept (hS.2.1 _ hlt hna)
  exact W.alen hx hb hc hof (n := iI n) (by rw [hsz]; rfl) rfl rfl dg (kk H locs ls hP hD hS hl)
theorem Lx.callW (C : Lx n sx d mc ms X) {y : MethodName} {cc2 : ByteArray} {nL2 : Nat} {rt2 : Option FieldType} {h2h : List (Nat × Nat × Nat × Nat)} {d2 mc2 ms2 idx k : Nat} {as : List Value} {Po2 : AT} (M : AW y cc2 nL2 rt2 h2h d2 mc2 ms2 as L f Po2) (c1 : Cond.initialized y.cls ∈ Om) (c2 : Cond.codeWith y cc2 nL2 rt2 h2h ∈ Om) (c3 : y.cls ≠ "java/lang/invoke/MethodHandle" ∧ y.cls ≠ "java/lang/invoke/VarHandle" ∧ (parseMethodDescriptor y.desc).map (fun d => d.parameters.length) = some k) (c6 : nL2 ≤ 40) (w1 : Cond.methodLink RL idx y ∈ Om) (w2 : Cond.static y ∈ Om) (dg : decode cL_law pc = .ok (.invokestatic idx, 3)) (hn : as.length = k) (hd : d2 + 1 ≤ d) (h1 : ce + mc2 ≤ mc) (h2 : sl + ms2 ≤ ms) (hs : (st.map fun v => v.category).sum ≤ 8) {st0 : List Value} (hst : st0 = as.reverse ++ st)
    (kk : ∀ (r : Option Value) (L' : List Nat) (f' : Nat → AC), Po2 r L' f' → X (ce + mc2) (sl + ms2) L' f' (pc + 3) lv (r.toList ++ st)) : X ce sl L f pc lv st0 := by
  obtain ⟨p, l, e, s, m, args, below, meth, c, dC, dI, cy, ad, A, Q, w0, ⟨hx, hb, hml, hown, hts⟩, hK, hA, hE, had, hstk, hsc, hret, rfl⟩ := C
  intro H locs ls hP hD hS hl
  subst hst
  have hg : GoodIn (w0 :: Om) (va_wsS RL idx y (Cond.codeWith y cc2 nL2 rt2 h2h :: Om)) := by
    intro w hw
    rcases List.mem_append.mp hw with h | h
    · simp only [List.mem_cons, List.not_mem_nil, or_false] at h
      rcases h with rfl | rfl | rfl
      · exact Om_w w1
      · exact Om_w w2
      · exact Om_w c1
    · rcases List.mem_cons.mp h with rfl | h
      · exact Om_w c2
      · exact Om_w h
  have hr := vx_runSX (R := rmm d mc ms) (p := p) (e := e) (below := below) (meth := meth) (locs := locs) (cells := ce) (slots := sl) (g := F0 m pc ls ((as.reverse ++ st).map (rv ad))) (As := as.map (rv ad)) (rest := st.map (rv ad)) ⟨hx, hb, hml, hown, hts⟩ (M l dC dI cy ad H.size had hstk) (vx_cwSW k hts hg rfl rfl rfl c3 ⟨hd, by show 8 + (nL2 + 11) + (64 * d2 + 12) ≤ 64 * d + 12; omega⟩) ⟨call_fb, call_pre hP hD hS hA hK hE⟩ rfl (by rw [List.length_map]; exact hn) hl.1 (by show (as.reverse ++ st).map (rv ad) = _; rw [List.map_append, List.map_reverse]) (lv_room (cat_sum hs)) dg ⟨h1, h2⟩
  refine call_go (a := #[]) (fun T hT XX => ?_) hD hS hA hl kk
  rcases hr T hT XX with h | ⟨q, st₀, t, T', Lc, E, ce', h0, X', hL, e1, e2, hfl, -⟩
  · exact h
  · exact hfl.elim
/-- other numbers for the same things -/
theorem Lx.renum (C : Lx n sx d mc ms X) (sg : Nat → Nat) (hO : sg 17 = 17 ∧ sg 18 = 18 ∧ sg 19 = 19) (hb : ∀ k, 36 ≤ k → sg k = k) :
    ∃ X' : XT, Lx n sx d mc ms X' ∧ ∀ (ce sl : Nat) (L : List Nat) (f : Nat → AC) (pc : Nat) (lv : List (Option Value)) (st : List Value) (L' : List Nat) (f' : Nat → AC) (lv' : List (Option Value)) (st' : List Value),
      L.filter notO = (L'.filter notO).map sg → (∀ k ∈ L', notO k = true → f (sg k) = mcl sg (f' k)) → OO L' f' → lv = lv'.map (fun o => o.map (rv sg)) → st = st'.map (rv sg) → X' ce sl L' f' pc lv' st' → X ce sl L f pc lv st := by
  obtain ⟨p, l, e, s, m, args, below, meth, c, dC, dI, cy, ad, A, Q, w0, hF, hK, hA, hE, had, hstk, hsc, hret, rfl⟩ := C
  refine ⟨_, ⟨p, l, e, s, m, args, below, meth, c, dC, dI, cy, (fun k => ad (sg k)), A, Q, w0, hF, hK, hA, ?_, ?_, hstk, ?_, ?_, rfl⟩, ?_⟩
  · exact hE.congr (by rw [hO.1]) (by rw [hO.2.1]) (fun k hk => by rw [hb k hk])
  · intro k hk
    show ad (sg k) = _
    rw [hb k (by omega)]
    exact had k hk
  · show va_X (ad (sg 19)) n _ s s.heap ∧ ad (sg 19) < s.heap.size ∧ ¬ A (ad (sg 19))
    rw [hO.2.2]
    exact hsc
  · intro ins r L f H locs pc ls hrk hdg hpo hP hD hS
    have hpo : r = some (.int (iI 1)) := hpo
    subst hpo
    exact hret ins (some (.int (iI 1))) [] f H locs pc ls hrk hdg rfl (fun k q h => by cases h) ⟨⟨fun i j p q h => (by cases h), fun k q h => (by cases h)⟩, fun k h => (by cases h)⟩ hS
  · intro ce sl L f pc lv st L' f' lv' st' hL hf hOO hlv hst k H locs ls hP hD hS hl
    have ew : wo cy ad L f = wo cy (fun k => ad (sg k)) L' f' := by
      unfold wo
      rw [hL, List.map_map]
      apply List.map_congr_left
      intro q hq
      obtain ⟨hq1, hq2⟩ := List.mem_filter.mp hq
      show (ad (sg q), rc cy ad (f (sg q))) = (ad (sg q), rc cy (fun k => ad (sg k)) (f' q))
      rw [hf q hq1 hq2, rc_mcl]
    have ea : al ad lv = al (fun k => ad (sg k)) lv' := by
      unfold al
      rw [hlv, List.length_map]
      congr 1
      funext i
      rw [List.getD_eq_getElem?_getD, List.getD_eq_getElem?_getD, List.getElem?_map]
      cases lv'[i]? with
      | none => rfl
      | some o =>
        cases o with
        | none => rfl
        | some v =>
          show some (i, rv ad (rv sg v)) = some (i, rv (fun k => ad (sg k)) v)
          rw [rv_rv]
    have es : st.map (rv ad) = st'.map (rv (fun k => ad (sg k))) := by
      rw [hst, List.map_map]
      apply List.map_congr_left
      intro v _
      exact rv_rv ad sg v
    rw [es]
    exact k H locs ls (by rw [← ew]; exact hP) ⟨by rw [← ew]; exact hD.1, hOO⟩ hS (by rw [← ea]; exact hl)
end LX
