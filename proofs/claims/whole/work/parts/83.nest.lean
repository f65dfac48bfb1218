section NEST
variable {own : String} {cc : ByteArray} {nL : Nat} {rt : Option FieldType} {ini : Bool} {d mc ms : Nat} {Po : AT} {X : XT} {ce sl pc : Nat} {L : List Nat} {f : Nat → AC} {lv : List (Option Value)} {st : List Value}
/-- a static call of a private method of a class of the same nest -/
theorem Cx.callSN (C : Cx own cc nL rt ini d mc ms Po X) {y : MethodName} {host : String} {cc2 : ByteArray} {nL2 : Nat} {rt2 : Option FieldType} {d2 mc2 ms2 idx n : Nat} {as : List Value} {Po2 : AT} (M : AM y cc2 nL2 rt2 d2 mc2 ms2 as L f Po2) (cw : CW y cc2 nL2 rt2 n) (hnest : ∀ {cy : Nat → ClassId} {ad : Nat → Nat} {A : Nat → Prop} {U : State} {H : Heap}, Ev cy ad A U H → va_Nw (.methodLinkNest own idx y host) U) (w2 : Cond.static y ∈ Om) (dg : decode cc pc = .ok (.invokestatic idx, 3)) (hn : as.length = n) (hd : d2 + 1 ≤ d) (h1 : ce + mc2 ≤ mc) (h2 : sl + ms2 ≤ ms) (hs : (st.map fun v => v.category).sum ≤ 8) {st0 : List Value} (hst : st0 = as.reverse ++ st)
    (kk : ∀ (r : Option Value) (L' : List Nat) (f' : Nat → AC), Po2 r L' f' → X (ce + mc2) (sl + ms2) L' f' (pc + 3) lv (r.toList ++ st)) : X ce sl L f pc lv st0 := by
  obtain ⟨p, l, e, s, m, args, below, meth, c, dC, dI, cy, ad, A, Q, w0, ⟨hx, hb, hml, hown, hts⟩, hin0, hK, hA, hE, had, hret, rfl⟩ := C
  intro H locs ls hP hD hS hl
  subst hst
  obtain ⟨c1, c2, c3, c4, c5, c6⟩ := cw
  refine call_go (a := #[]) (va_runSN (As := as.map (rv ad)) (rest := st.map (rv ad)) ⟨hx, hb, hml, hown, hts⟩ (M l dC dI cy ad H.size had) ⟨va_cnB n hts (Om_in c2) rfl rfl rfl (hnest hE) (hts _ (List.mem_cons_of_mem _ c1)) ⟨c3, c4, c5⟩ ⟨hd, by show 8 + (nL2 + 11) + (64 * d2 + 12) ≤ 64 * d + 12; omega⟩, hts _ (List.mem_cons_of_mem _ w2), trivial⟩ ⟨call_fb, call_pre hP hD hS hA hK hE⟩ rfl (by rw [List.length_map]; exact hn) hl.1 ?_ (lv_room (cat_sum hs)) dg ⟨h1, h2⟩) hD hS hA hl kk
  show (as.reverse ++ st).map (rv ad) = _
  rw [List.map_append, List.map_reverse]
end NEST
