/-! rows of the law's own body -/
section LAW0
variable {own : String} {cc : ByteArray} {nL : Nat} {rt : Option FieldType} {ini : Bool} {d mc ms : Nat} {Po : AT} {X : XT} {ce sl pc : Nat} {L : List Nat} {f : Nat → AC} {lv : List (Option Value)} {st : List Value}
theorem Cx.newJ (C : Cx own cc nL rt ini d mc ms Po X) {N : Nat} {z : Int} (hz : z = N) (hN : N ≤ 100000) (dg : decode cc pc = .ok (.newarray .long, 2)) (h1 : ce + 1 ≤ mc) (h2 : sl + N ≤ ms)
    (kk : ∀ k, 2000 ≤ k → k ∉ L → X (ce + 1) (sl + N) (L ++ [k]) (va_up f k (cj_ 3 N (fun _ => 0))) (pc + 2) lv (.ref k :: st)) : X ce sl L f pc lv (.int (iI z) :: st) := by
  obtain ⟨p, l, e, s, m, args, below, meth, c, dC, dI, cy, ad, A, Q, w0, ⟨hx, hb, hml, hown, hts⟩, hin0, hK, hA, hE, had, hret, rfl⟩ := C
  intro H locs ls hP hD hS hl
  refine va_newa (a0 := (N, .inr (.inl (fun _ => 0)))) hx hb (hts _ (List.mem_cons_of_mem _ (om_wsL_law0_r1 _ (List.mem_of_getElem? (i := 6) rfl)))) rfl hK hP hD.1 hS hA (fun cA => rfl) (by rw [Int32.lt_iff_toInt_lt, iI_toInt (by omega)]; show ¬ z < 0; omega) (by rw [iI_clamp (by omega)]; omega) (by show N * 8 ≤ _; omega) h1 h2 dg (fun q cA H1 hK1 hP1 hD1 hS1 => ?_)
  obtain rfl := cA_eq hK1 (show (tyl cy)[3]? = some (cy 3, _) from rfl)
  obtain ⟨hq, hqL⟩ := fresh_at had hD1
  have e := wo_push (cy := cy) (ad := ad) (f := f) (e := (cj_ 3 N (fun _ => 0) : AC)) hqL (nO_big (by omega))
  rw [hq] at e
  have := kk (q + 2000) (by omega) hqL H1 locs ls (by rw [e]; exact hP1) ⟨by rw [e]; exact hD1, hD.2.psh (by omega)⟩ hS1 hl
  rw [List.map_cons] at this
  show W _ _ _ _ _ _ _ _ _ _ _ _ _ _ _ (F0 m (pc + 2) ls (Value.ref q :: st.map (rv ad)))
  rw [← hq]
  exact this
end LAW0
