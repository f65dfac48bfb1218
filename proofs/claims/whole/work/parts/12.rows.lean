
theorem rv_nar {ad : Nat → Nat} {ty : FieldType} {v : Value} (h : narrow ty v = v) : narrow ty (rv ad v) = rv ad v := by
  cases v <;> cases ty <;> first | rfl | exact h
theorem rv_fit {ad : Nat → Nat} {ty : FieldType} {v : Value} (h : fits ty v = true) : fits ty (rv ad v) = true := by
  cases v <;> cases ty <;> first | rfl | exact h
/-- a field that a class reads by an entry of its table -/
def GF (own : String) (idx ci j : Nat) : Prop := ∃ (Cn : String) (T : u_T) (N : Nat), vwCl[ci]? = some (Cn, T, N) ∧ (∀ w ∈ u_ws Cn T N, w ∈ Om) ∧ j < N ∧ Cond.fieldLink own idx (T j).1 (T j).2.1 (T j).2.2.1 ∈ Om
/-- .. and one that it writes (fin: a final one, in its own constructor) -/
def PF (own : String) (idx ci j : Nat) (ty : FieldType) (fin : Bool) : Prop := ∃ (Cn : String) (T : u_T) (N : Nat) (ty0 : Nat → FieldType), vwCl[ci]? = some (Cn, T, N) ∧ (∀ w ∈ u_ws Cn T N, w ∈ Om) ∧ (∀ k, k < N → parseFieldDescriptor (T k).2.2.1 = some (ty0 k)) ∧ (∀ a, a < N → ∀ b, b < N → a ≠ b → (T a).2.1 ≠ (T b).2.1) ∧ j < N ∧ Cond.fieldLink own idx (T j).1 (T j).2.1 (T j).2.2.1 ∈ Om ∧ (T j).2.2.2 = fin ∧ (fin = true → (T j).1 = own) ∧ parseFieldDescriptor (T j).2.2.1 = some ty
/-- a class that is made by an entry of a table; what its objects hold at first -/
def NF (own : String) (idx ci : Nat) (fs0 : List Value) : Prop := ∃ (Cn : String) (T : u_T) (N : Nat) (ty0 : Nat → FieldType), vwCl[ci]? = some (Cn, T, N) ∧ N = fs0.length ∧ (∀ w ∈ u_ws Cn T N, w ∈ Om) ∧ (∀ k, k < N → parseFieldDescriptor (T k).2.2.1 = some (ty0 k)) ∧ Cond.classLink own idx Cn ∈ Om ∧ Cond.instantiable Cn N ∈ Om ∧ Cond.initialized Cn ∈ Om ∧ (∀ k, k < N → defaultValue (ty0 k) = vp_V fs0 k) ∧ fs0.all (fun v => match v with | .ref _ => false | _ => true) = true
theorem rv_fs0 {ad : Nat → Nat} {fs0 : List Value} (h : fs0.all (fun v => match v with | .ref _ => false | _ => true) = true) : fs0.map (rv ad) = fs0 := by
  rw [List.map_congr_left (g := id), List.map_id]
  intro v hv
  have := List.all_eq_true.mp h v hv
  cases v <;> first | rfl | (simp at this)
section ROWS2
variable {own : String} {cc : ByteArray} {nL : Nat} {rt : Option FieldType} {ini : Bool} {d mc ms : Nat} {Po : AT} {X : XT} {ce sl pc : Nat} {L : List Nat} {f : Nat → AC} {lv : List (Option Value)} {st : List Value}
theorem Cx.getf (C : Cx own cc nL rt ini d mc ms Po X) {idx ci j k : Nat} {fs : List Value} {v : Value} (G : GF own idx ci j) (dg : decode cc pc = .ok (.getfield idx, 3)) (hk : k ∈ L) (hf : f k = .inr (ci, fs)) (hv : fs[j]? = some v)
    (kk : X ce sl L f (pc + 3) lv (v :: st)) : X ce sl L f pc lv (.ref k :: st) := by
  obtain ⟨p, l, e, s, m, args, below, meth, c, dC, dI, cy, ad, A, Q, w0, ⟨hx, hb, hml, hown, hts⟩, hin0, hK, hA, hE, had, hret, rfl⟩ := C
  intro H locs ls hP hD hS hl
  obtain ⟨Cn, T, N, hc, hin, hj, hw⟩ := G
  have hnk := hD.2.obj hk hf
  obtain ⟨i, hi, hwk⟩ := wo_get (cy := cy) (ad := ad) (f := f) hk hnk
  rw [hf] at hwk
  exact va_get hx hb hts (fun w h => List.mem_cons_of_mem _ (hin w h)) hown hK hP i hwk hc j hj (hts _ (List.mem_cons_of_mem _ hw)) (fun _ h => h) (v := rv ad v) (by rw [List.getElem?_map, hv]; rfl) dg (kk H locs ls hP hD hS hl)
theorem Cx.putf (C : Cx own cc nL rt ini d mc ms Po X) {idx ci j k : Nat} {fs : List Value} {v : Value} {ty : FieldType} (G : PF own idx ci j ty false) (dg : decode cc pc = .ok (.putfield idx, 3)) (hk : k ∈ L) (hf : f k = .inr (ci, fs)) (hn : narrow ty v = v) (hfit : fits ty v = true) (hl0 : j < fs.length)
    (kk : X ce sl L (va_up f k (.inr (ci, fs.set j v))) (pc + 3) lv st) : X ce sl L f pc lv (v :: .ref k :: st) := by
  obtain ⟨p, l, e, s, m, args, below, meth, c, dC, dI, cy, ad, A, Q, w0, ⟨hx, hb, hml, hown, hts⟩, hin0, hK, hA, hE, had, hret, rfl⟩ := C
  intro H locs ls hP hD hS hl
  obtain ⟨Cn, T, N, ty0, hc, hin, hty, hnm, hj, hw, hfin, -, hd⟩ := G
  have hnk := hD.2.obj hk hf
  obtain ⟨i, hi, hwk⟩ := wo_get (cy := cy) (ad := ad) (f := f) hk hnk
  rw [hf] at hwk
  have e : (wo cy ad L f).set i (ad k, .inr (ci, (fs.map (rv ad)).set j (rv ad v))) = wo cy ad L (va_up f k (.inr (ci, fs.set j v))) := by
    rw [← wo_set hD.1 hi]
    show _ = (wo cy ad L f).set i (ad k, .inr (ci, (fs.set j v).map (rv ad)))
    rw [List.map_set]
  exact va_put hx hb hts (fun w h => List.mem_cons_of_mem _ (hin w h)) ty0 hty hnm hown hK hP hD.1 hS i hwk hc j hj (hts _ (List.mem_cons_of_mem _ hw)) (fun _ h => h) hfin hd (rv_nar hn) (rv_fit hfit) (by rw [List.length_map]; exact hl0) dg (fun H1 locs1 hP1 hD1 hS1 => kk H1 locs1 ls (by rw [← e]; exact hP1) ⟨by rw [← e]; exact hD1, hD.2.up hnk⟩ hS1 hl)
theorem Cx.putF {own : String} {cc : ByteArray} {nL : Nat} {rt : Option FieldType} {d mc ms : Nat} {Po : AT} {X : XT} {ce sl pc : Nat} {L : List Nat} {f : Nat → AC} {lv : List (Option Value)} {st : List Value} (C : Cx own cc nL rt true d mc ms Po X) {idx ci j k : Nat} {fs : List Value} {v : Value} {ty : FieldType} (G : PF own idx ci j ty true) (dg : decode cc pc = .ok (.putfield idx, 3)) (hk : k ∈ L) (hf : f k = .inr (ci, fs)) (hn : narrow ty v = v) (hfit : fits ty v = true) (hl0 : j < fs.length)
    (kk : X ce sl L (va_up f k (.inr (ci, fs.set j v))) (pc + 3) lv st) : X ce sl L f pc lv (v :: .ref k :: st) := by
  obtain ⟨p, l, e, s, m, args, below, meth, c, dC, dI, cy, ad, A, Q, w0, ⟨hx, hb, hml, hown, hts⟩, hin0, hK, hA, hE, had, hret, rfl⟩ := C
  intro H locs ls hP hD hS hl
  obtain ⟨Cn, T, N, ty0, hc, hin, hty, hnm, hj, hw, hfin, hdc, hd⟩ := G
  have hnk := hD.2.obj hk hf
  obtain ⟨i, hi, hwk⟩ := wo_get (cy := cy) (ad := ad) (f := f) hk hnk
  rw [hf] at hwk
  have e : (wo cy ad L f).set i (ad k, .inr (ci, (fs.map (rv ad)).set j (rv ad v))) = wo cy ad L (va_up f k (.inr (ci, fs.set j v))) := by
    rw [← wo_set hD.1 hi]
    show _ = (wo cy ad L f).set i (ad k, .inr (ci, (fs.set j v).map (rv ad)))
    rw [List.map_set]
  exact va_putF hx hb hts (fun w h => List.mem_cons_of_mem _ (hin w h)) ty0 hty hnm hown hK hP hD.1 hS i hwk hc j hj (hts _ (List.mem_cons_of_mem _ hw)) (fun _ h => h) hfin (hin0 rfl) (hdc rfl) hd (rv_nar hn) (rv_fit hfit) (by rw [List.length_map]; exact hl0) dg (fun H1 locs1 hP1 hD1 hS1 => kk H1 locs1 ls (by rw [← e]; exact hP1) ⟨by rw [← e]; exact hD1, hD.2.up hnk⟩ hS1 hl)
theorem Cx.iald (C : Cx own cc nL rt ini d mc ms Po X) {k n : Nat} {g : Nat → Int32} {i : Int32} (dg : decode cc pc = .ok (.iaload, 1)) (hk : k ∈ L) (hf : f k = .inl (1, n, .inl g)) (hin : vp_in i n)
    (kk : X ce sl L f (pc + 1) lv (.int (g i.toNatClampNeg) :: st)) : X ce sl L f pc lv (.int i :: .ref k :: st) := by
  obtain ⟨p, l, e, s, m, args, below, meth, c, dC, dI, cy, ad, A, Q, w0, ⟨hx, hb, hml, hown, hts⟩, hin0, hK, hA, hE, had, hret, rfl⟩ := C
  intro H locs ls hP hD hS hl
  have hnk := hD.2.arr hk hf (by decide)
  obtain ⟨j, hi, hwk⟩ := wo_get (cy := cy) (ad := ad) (f := f) hk hnk
  rw [hf] at hwk
  exact va_iald hx hb hK hP j 1 hwk rfl hin dg (kk H locs ls hP hD hS hl)
theorem Cx.bald (C : Cx own cc nL rt ini d mc ms Po X) {k n : Nat} {g : Nat → Int32} {i : Int32} (dg : decode cc pc = .ok (.baload, 1)) (hk : k ∈ L) (hf : f k = .inl (0, n, .inl g)) (hin : vp_in i n)
    (kk : X ce sl L f (pc + 1) lv (.int (g i.toNatClampNeg) :: st)) : X ce sl L f pc lv (.int i :: .ref k :: st) := by
  obtain ⟨p, l, e, s, m, args, below, meth, c, dC, dI, cy, ad, A, Q, w0, ⟨hx, hb, hml, hown, hts⟩, hin0, hK, hA, hE, had, hret, rfl⟩ := C
  intro H locs ls hP hD hS hl
  have hnk := hD.2.arr hk hf (by decide)
  obtain ⟨j, hi, hwk⟩ := wo_get (cy := cy) (ad := ad) (f := f) hk hnk
  rw [hf] at hwk
  exact va_bald hx hb hK hP j 0 hwk rfl hin dg (kk H locs ls hP hD hS hl)
theorem Cx.zald (C : Cx own cc nL rt ini d mc ms Po X) {k n : Nat} {g : Nat → Int32} {i : Int32} (dg : decode cc pc = .ok (.baload, 1)) (hk : k ∈ L) (hf : f k = .inl (2, n, .inl g)) (hin : vp_in i n)
    (kk : X ce sl L f (pc + 1) lv (.int (g i.toNatClampNeg) :: st)) : X ce sl L f pc lv (.int i :: .ref k :: st) := by
  obtain ⟨p, l, e, s, m, args, below, meth, c, dC, dI, cy, ad, A, Q, w0, ⟨hx, hb, hml, hown, hts⟩, hin0, hK, hA, hE, had, hret, rfl⟩ := C
  intro H locs ls hP hD hS hl
  have hnk := hD.2.arr hk hf (by decide)
  obtain ⟨j, hi, hwk⟩ := wo_get (cy := cy) (ad := ad) (f := f) hk hnk
  rw [hf] at hwk
  exact va_zald hx hb hK hP j 2 hwk rfl hin dg (kk H locs ls hP hD hS hl)
theorem Cx.lald (C : Cx own cc nL rt ini d mc ms Po X) {k n : Nat} {g : Nat → Int64} {i : Int32} (dg : decode cc pc = .ok (.laload, 1)) (hk : k ∈ L) (hf : f k = .inl (3, n, .inr (.inl g))) (hin : vp_in i n)
    (kk : X ce sl L f (pc + 1) lv (.long (g i.toNatClampNeg) :: st)) : X ce sl L f pc lv (.int i :: .ref k :: st) := by
  obtain ⟨p, l, e, s, m, args, below, meth, c, dC, dI, cy, ad, A, Q, w0, ⟨hx, hb, hml, hown, hts⟩, hin0, hK, hA, hE, had, hret, rfl⟩ := C
  intro H locs ls hP hD hS hl
  by_cases hnk : notO k = true
  case neg =>
    have hnk : notO k = false := by cases h : notO k; rfl; exact absurd h hnk
    have h9 := hD.2 k hk hnk
    rw [hf] at h9
    rcases nO_cases hnk with rfl | rfl | rfl
    · exact absurd (congrArg (fun z : AC => match z with | .inl y => y.1 | .inr _ => 0) h9) (show ¬ (3 : Nat) = 5 from by decide)
    · have h9 : (.inl (3, n, .inr (.inl g)) : AC) = cj_ 3 6 (fun i => trL0.getD i 0) := h9
      cases h9
      exact va_tl hx hb hE.2.2.2.2.2.1.2.2 hS hin rfl dg (kk H locs ls hP hD hS hl)
    · exact absurd (congrArg (fun z : AC => match z with | .inl y => y.1 | .inr _ => 0) h9) (show ¬ (3 : Nat) = 9 from by decide)
  obtain ⟨j, hi, hwk⟩ := wo_get (cy := cy) (ad := ad) (f := f) hk hnk
  rw [hf] at hwk
  exact va_lald hx hb hK hP j 3 hwk rfl hin dg (kk H locs ls hP hD hS hl)
theorem Cx.iast (C : Cx own cc nL rt ini d mc ms Po X) {k n : Nat} {g : Nat → Int32} {i : Int32} {x : Int32} (dg : decode cc pc = .ok (.iastore, 1)) (hk : k ∈ L) (hf : f k = .inl (1, n, .inl g)) (hin : vp_in i n)
    (kk : X ce sl L (va_up f k (.inl (1, n, .inl (upd g i.toNatClampNeg x)))) (pc + 1) lv st) : X ce sl L f pc lv (.int x :: .int i :: .ref k :: st) := by
  obtain ⟨p, l, e, s, m, args, below, meth, c, dC, dI, cy, ad, A, Q, w0, ⟨hx, hb, hml, hown, hts⟩, hin0, hK, hA, hE, had, hret, rfl⟩ := C
  intro H locs ls hP hD hS hl
  have hnk := hD.2.arr hk hf (by decide)
  obtain ⟨j, hi, hwk⟩ := wo_get (cy := cy) (ad := ad) (f := f) hk hnk
  rw [hf] at hwk
  have e := wo_set (cy := cy) (ad := ad) (e := (.inl (1, n, .inl (upd g i.toNatClampNeg x)) : AC)) hD.1 hi
  exact va_iast hx hb hK hP hD.1 hS j 1 hwk rfl hin dg (fun H1 locs1 hP1 hD1 hS1 => kk H1 locs1 ls (by rw [← e]; exact hP1) ⟨by rw [← e]; exact hD1, hD.2.up hnk⟩ hS1 hl)
theorem Cx.bast (C : Cx own cc nL rt ini d mc ms Po X) {k n : Nat} {g : Nat → Int32} {i : Int32} {x : Int32} (dg : decode cc pc = .ok (.bastore, 1)) (hk : k ∈ L) (hf : f k = .inl (0, n, .inl g)) (hin : vp_in i n)
    (kk : X ce sl L (va_up f k (.inl (0, n, .inl (upd g i.toNatClampNeg (vp_nar .byte x))))) (pc + 1) lv st) : X ce sl L f pc lv (.int x :: .int i :: .ref k :: st) := by
  obtain ⟨p, l, e, s, m, args, below, meth, c, dC, dI, cy, ad, A, Q, w0, ⟨hx, hb, hml, hown, hts⟩, hin0, hK, hA, hE, had, hret, rfl⟩ := C
  intro H locs ls hP hD hS hl
  have hnk := hD.2.arr hk hf (by decide)
  obtain ⟨j, hi, hwk⟩ := wo_get (cy := cy) (ad := ad) (f := f) hk hnk
  rw [hf] at hwk
  have e := wo_set (cy := cy) (ad := ad) (e := (.inl (0, n, .inl (upd g i.toNatClampNeg (vp_nar .byte x))) : AC)) hD.1 hi
  exact va_bast hx hb hK hP hD.1 hS j 0 hwk rfl hin dg (fun H1 locs1 hP1 hD1 hS1 => kk H1 locs1 ls (by rw [← e]; exact hP1) ⟨by rw [← e]; exact hD1, hD.2.up hnk⟩ hS1 hl)
theorem Cx.zast (C : Cx own cc nL rt ini d mc ms Po X) {k n : Nat} {g : Nat → Int32} {i : Int32} {x : Int32} (dg : decode cc pc = .ok (.bastore, 1)) (hk : k ∈ L) (hf : f k = .inl (2, n, .inl g)) (hin : vp_in i n)
    (kk : X ce sl L (va_up f k (.inl (2, n, .inl (upd g i.toNatClampNeg (vp_nar .boolean x))))) (pc + 1) lv st) : X ce sl L f pc lv (.int x :: .int i :: .ref k :: st) := by
  obtain ⟨p, l, e, s, m, args, below, meth, c, dC, dI, cy, ad, A, Q, w0, ⟨hx, hb, hml, hown, hts⟩, hin0, hK, hA, hE, had, hret, rfl⟩ := C
  intro H locs ls hP hD hS hl
  have hnk := hD.2.arr hk hf (by decide)
  obtain ⟨j, hi, hwk⟩ := wo_get (cy := cy) (ad := ad) (f := f) hk hnk
  rw [hf] at hwk
  have e := wo_set (cy := cy) (ad := ad) (e := (.inl (2, n, .inl (upd g i.toNatClampNeg (vp_nar .boolean x))) : AC)) hD.1 hi
  exact va_zast hx hb hK hP hD.1 hS j 2 hwk rfl hin dg (fun H1 locs1 hP1 hD1 hS1 => kk H1 locs1 ls (by rw [← e]; exact hP1) ⟨by rw [← e]; exact hD1, hD.2.up hnk⟩ hS1 hl)
theorem Cx.last (C : Cx own cc nL rt ini d mc ms Po X) {k n : Nat} {g : Nat → Int64} {i : Int32} {x : Int64} (dg : decode cc pc = .ok (.lastore, 1)) (hk : k ∈ L) (hf : f k = .inl (3, n, .inr (.inl g))) (hin : vp_in i n) (hnk : notO k = true)
    (kk : X ce sl L (va_up f k (.inl (3, n, .inr (.inl (vp_updL g i.toNatClampNeg x))))) (pc + 1) lv st) : X ce sl L f pc lv (.long x :: .int i :: .ref k :: st) := by
  obtain ⟨p, l, e, s, m, args, below, meth, c, dC, dI, cy, ad, A, Q, w0, ⟨hx, hb, hml, hown, hts⟩, hin0, hK, hA, hE, had, hret, rfl⟩ := C
  intro H locs ls hP hD hS hl
  obtain ⟨j, hi, hwk⟩ := wo_get (cy := cy) (ad := ad) (f := f) hk hnk
  rw [hf] at hwk
  have e := wo_set (cy := cy) (ad := ad) (e := (.inl (3, n, .inr (.inl (vp_updL g i.toNatClampNeg x))) : AC)) hD.1 hi
  exact va_last hx hb hK hP hD.1 hS j 3 hwk rfl hin dg (fun H1 locs1 hP1 hD1 hS1 => kk H1 locs1 ls (by rw [← e]; exact hP1) ⟨by rw [← e]; exact hD1, hD.2.up hnk⟩ hS1 hl)
theorem tyl_at {cy : Nat → ClassId} {t : Nat} (ht : t < 6) : ∃ ty, (tyl cy)[t]? = some (cy t, ty) := by
  match t, ht with
  | 0, _ => exact ⟨_, rfl⟩
  | 1, _ => exact ⟨_, rfl⟩
  | 2, _ => exact ⟨_, rfl⟩
  | 3, _ => exact ⟨_, rfl⟩
  | 4, _ => exact ⟨_, rfl⟩
  | 5, _ => exact ⟨_, rfl⟩
theorem Cx.alen (C : Cx own cc nL rt ini d mc ms Po X) {k t n : Nat} {g : (Nat → Int32) ⊕ (Nat → Int64) ⊕ (Nat → UInt32) ⊕ (Nat → UInt64) ⊕ (Nat → Option Nat)} (dg : decode cc pc = .ok (.arraylength, 1)) (hk : k ∈ L) (hf : f k = .inl (t, n, g)) (ht : t < 6)
    (kk : X ce sl L f (pc + 1) lv (.int (nI n) :: st)) : X ce sl L f pc lv (.ref k :: st) := by
  obtain ⟨p, l, e, s, m, args, below, meth, c, dC, dI, cy, ad, A, Q, w0, ⟨hx, hb, hml, hown, hts⟩, hin0, hK, hA, hE, had, hret, rfl⟩ := C
  intro H locs ls hP hD hS hl
  by_cases hnk : notO k = true
  case neg =>
    have hnk : notO k = false := by cases h : notO k; rfl; exact absurd h hnk
    have h9 := hD.2 k hk hnk
    rw [hf] at h9
    rcases nO_cases hnk with rfl | rfl | rfl
    · have h9 : (.inl (t, n, g) : AC) = cr_ 5 0 (fun _ => none) := h9
      cases h9
      exact va_tlen hx hb hE.2.2.2.2.2.1.1.2 hS rfl dg (kk H locs ls hP hD hS hl)
    · have h9 : (.inl (t, n, g) : AC) = cj_ 3 6 (fun i => trL0.getD i 0) := h9
      cases h9
      exact va_tlen hx hb hE.2.2.2.2.2.1.2.2 hS rfl dg (kk H locs ls hP hD hS hl)
    · have h9 : (.inl (t, n, g) : AC) = ci_ 9 0 (fun _ => 0) := h9
      cases h9
      exact absurd ht (by decide)
  obtain ⟨j, hi, hwk⟩ := wo_get (cy := cy) (ad := ad) (f := f) hk hnk
  rw [hf] at hwk
  obtain ⟨ty, hty⟩ := tyl_at (cy := cy) ht
  have hw2 : ∃ x : vp_A, x.1 = n ∧ (wo cy ad L f)[j]? = some (ad k, .inl (cy t, x)) := by
    rcases g with g | g | g | g | g <;> exact ⟨_, rfl, hwk⟩
  obtain ⟨x, hx1, hx2⟩ := hw2
  exact va_alen hx hb hK hP j t hx2 hty (by rw [hx1]; rfl) dg (kk H locs ls hP hD hS hl)
theorem Cx.aald4 (C : Cx own cc nL rt ini d mc ms Po X) {k n : Nat} {g : Nat → Option Nat} {i : Int32} (dg : decode cc pc = .ok (.aaload, 1)) (hk : k ∈ L) (hf : f k = .inl (4, n, .inr (.inr (.inr (.inr g))))) (hin : vp_in i n)
    (kk : X ce sl L f (pc + 1) lv (va_rf (g i.toNatClampNeg) :: st)) : X ce sl L f pc lv (.int i :: .ref k :: st) := by
  obtain ⟨p, l, e, s, m, args, below, meth, c, dC, dI, cy, ad, A, Q, w0, ⟨hx, hb, hml, hown, hts⟩, hin0, hK, hA, hE, had, hret, rfl⟩ := C
  intro H locs ls hP hD hS hl
  have hnk := hD.2.arr hk hf (by decide)
  obtain ⟨j, hi, hwk⟩ := wo_get (cy := cy) (ad := ad) (f := f) hk hnk
  rw [hf] at hwk
  have h1 := kk H locs ls hP hD hS hl
  have h2 : rv ad (va_rf (g i.toNatClampNeg)) = va_rf ((g i.toNatClampNeg).map ad) := by cases g i.toNatClampNeg <;> rfl
  rw [List.map_cons, h2] at h1
  exact va_aldq (f := fun i => (g i).map ad) hx hb hK hP j 4 hwk rfl hin dg h1
theorem Cx.aald5 (C : Cx own cc nL rt ini d mc ms Po X) {k n : Nat} {g : Nat → Option Nat} {i : Int32} (dg : decode cc pc = .ok (.aaload, 1)) (hk : k ∈ L) (hf : f k = .inl (5, n, .inr (.inr (.inr (.inr g))))) (hin : vp_in i n)
    (kk : X ce sl L f (pc + 1) lv (va_rf (g i.toNatClampNeg) :: st)) : X ce sl L f pc lv (.int i :: .ref k :: st) := by
  obtain ⟨p, l, e, s, m, args, below, meth, c, dC, dI, cy, ad, A, Q, w0, ⟨hx, hb, hml, hown, hts⟩, hin0, hK, hA, hE, had, hret, rfl⟩ := C
  intro H locs ls hP hD hS hl
  have hnk := hD.2.arr5 hk hf rfl (fun h0 => hin (Or.inr (by rw [h0]; exact Nat.zero_le _)))
  obtain ⟨j, hi, hwk⟩ := wo_get (cy := cy) (ad := ad) (f := f) hk hnk
  rw [hf] at hwk
  have h1 := kk H locs ls hP hD hS hl
  have h2 : rv ad (va_rf (g i.toNatClampNeg)) = va_rf ((g i.toNatClampNeg).map ad) := by cases g i.toNatClampNeg <;> rfl
  rw [List.map_cons, h2] at h1
  exact va_aldq (f := fun i => (g i).map ad) hx hb hK hP j 5 hwk rfl hin dg h1
theorem fresh_at {cy : Nat → ClassId} {ad : Nat → Nat} {A : Nat → Prop} {L : List Nat} {f : Nat → AC} {q : Nat} {e : va_E} (had : adOk ad) (hD : va_D A (wo cy ad L f ++ [(q, e)])) : ad (q + 2000) = q ∧ q + 2000 ∉ L := by
  have h1 : ad (q + 2000) = q := by rw [had _ (by omega)]; omega
  refine ⟨h1, fun h => ?_⟩
  obtain ⟨i, hi, hw⟩ := wo_get (cy := cy) (ad := ad) (f := f) h (nO_big (by omega))
  have hl : i < (wo cy ad L f).length := (List.getElem?_eq_some_iff.mp hw).1
  have := hD.1 i (wo cy ad L f).length _ (q, e) (by rw [List.getElem?_append_left hl]; exact hw) (by rw [List.getElem?_append_right (Nat.le_refl _), Nat.sub_self]; rfl) h1
  omega
theorem Cx.new (C : Cx own cc nL rt ini d mc ms Po X) {idx ci : Nat} {fs0 : List Value} (G : NF own idx ci fs0) (dg : decode cc pc = .ok (.new idx, 3)) (h1 : ce + 1 ≤ mc) (h2 : sl + fs0.length ≤ ms)
    (kk : ∀ k, 2000 ≤ k → k ∉ L → X (ce + 1) (sl + fs0.length) (L ++ [k]) (va_up f k (.inr (ci, fs0))) (pc + 3) lv (.ref k :: st)) : X ce sl L f pc lv st := by
  obtain ⟨p, l, e, s, m, args, below, meth, c, dC, dI, cy, ad, A, Q, w0, ⟨hx, hb, hml, hown, hts⟩, hin0, hK, hA, hE, had, hret, rfl⟩ := C
  intro H locs ls hP hD hS hl
  obtain ⟨Cn, T, N, ty0, hc, rfl, hin, hty, hcl, hins, hini, hfs, hnr⟩ := G
  refine va_new hx hb hts (fun w h => List.mem_cons_of_mem _ (hin w h)) ty0 hty hown (hts _ (List.mem_cons_of_mem _ hcl)) (hts _ (List.mem_cons_of_mem _ hins)) (hts _ (List.mem_cons_of_mem _ hini)) hK hP hD.1 hS hA hc hfs h1 h2 dg (fun q H1 hP1 hD1 hS1 => ?_)
  obtain ⟨hq, hqL⟩ := fresh_at had hD1
  have e := wo_push (cy := cy) (ad := ad) (f := f) (e := (.inr (ci, fs0) : AC)) hqL (nO_big (by omega))
  rw [hq] at e
  have e2 : rc cy ad (.inr (ci, fs0)) = .inr (ci, fs0) := by show Sum.inr (ci, fs0.map (rv ad)) = _; rw [rv_fs0 hnr]
  rw [e2] at e
  have := kk (q + 2000) (by omega) hqL H1 locs ls (by rw [e]; exact hP1) ⟨by rw [e]; exact hD1, hD.2.psh (by omega)⟩ hS1 hl
  rw [List.map_cons] at this
  show W _ _ _ _ _ _ _ _ _ _ _ _ _ _ _ (F0 m (pc + 3) ls (Value.ref q :: st.map (rv ad)))
  rw [← hq]
  rw [show rv ad (.ref (q + 2000)) = .ref (ad (q + 2000)) from rfl] at this
  rw [hq] at this ⊢
  exact this
/-- the words of a call -/
def CW (y : MethodName) (cc2 : ByteArray) (nL2 : Nat) (rt2 : Option FieldType) (n : Nat) : Prop := Cond.initialized y.cls ∈ Om ∧ Cond.code y cc2 nL2 rt2 ∈ Om ∧ y.cls ≠ "java/lang/invoke/MethodHandle" ∧ y.cls ≠ "java/lang/invoke/VarHandle" ∧ (parseMethodDescriptor y.desc).map (fun d => d.parameters.length) = some n ∧ nL2 ≤ 40
theorem Om_w {w : Cond} (h : w ∈ Om) {b : Cond} : w ∈ b :: Om ∧ ((w.onTables && w.keeps) = true ∨ ∃ ty, w = .arrayClass ty) := ⟨List.mem_cons_of_mem _ h, good_of_word (List.all_eq_true.mp Om_good w h)⟩
theorem call_fb {dC : Nat → ClassId} {dI : Nat → Nat → Nat} {cy : Nat → ClassId} {ad : Nat → Nat} {sz : Nat} {as : List Value} {L : List Nat} {f : Nat → AC} : FrameBlind (va_Pc (as.map (rv ad)) (fun U => U.heap.size = sz ∧ va_P (dC, dI) vwCl (wo cy ad L f) U.heap ∧ va_K (dC, dI) vwCl (tyl cy) U ∧ vD (fun _ => True) cy ad L f ∧ Ev cy ad (va_A (wo cy ad L f) sz) U U.heap)) :=
  fun a U g mk q => by
    obtain ⟨q0, q1, qP, qK, qD, qE⟩ := q
    exact ⟨q0, q1, qP, va_K.moved (u := U) (U := U.calling g mk a) (Vm.Alike.refl U.vm) qK, qD, Ev.same (s := U) (U := U.calling g mk a) rfl qE⟩
theorem call_free {cy : Nat → ClassId} {ad : Nat → Nat} {A : Nat → Prop} {L : List Nat} {f : Nat → AC} {H0 H : Heap} {locs : List Loc} (hD : vD A cy ad L f) (hS : va_S A H0 H locs) (hA : ∀ q, H0.size ≤ q → A q) : ∀ q, va_A (wo cy ad L f) H.size q → A q := by
  intro q h
  rcases h with ⟨k, e, h⟩ | h
  · exact hD.1.2 k (q, e) h
  · exact hA q (Nat.le_trans hS.1 h)
theorem call_pre {s : State} {dC : Nat → ClassId} {dI : Nat → Nat → Nat} {cy : Nat → ClassId} {ad : Nat → Nat} {A : Nat → Prop} {as : List Value} {L : List Nat} {f : Nat → AC} {H : Heap} {locs : List Loc} (hP : va_P (dC, dI) vwCl (wo cy ad L f) H) (hD : vD A cy ad L f) (hS : va_S A s.heap H locs) (hA : ∀ q, s.heap.size ≤ q → A q) (hK : va_K (dC, dI) vwCl (tyl cy) s) (hE : Ev cy ad A s s.heap) :
    ∀ U : State, U.heap = H → s.WarmedH U.vm → va_Pc (as.map (rv ad)) (fun U => U.heap.size = H.size ∧ va_P (dC, dI) vwCl (wo cy ad L f) U.heap ∧ va_K (dC, dI) vwCl (tyl cy) U ∧ vD (fun _ => True) cy ad L f ∧ Ev cy ad (va_A (wo cy ad L f) H.size) U U.heap) (as.map (rv ad)).toArray U := by
  intro U hU hW
  refine ⟨rfl, by rw [hU], by rw [hU]; exact hP, va_K.moved hW.alike hK, ⟨hD.1.weaken (fun _ _ _ _ => trivial), hD.2⟩, ?_⟩
  rw [hU]
  exact ((hE.kept hS.2.1).narrow (call_free hD hS hA)).moved hW
theorem call_go {p : Program} {l : Launch} {e : Env} {R : Room} {s : State} {m : MethodId} {args : Array Value} {below : List Frame} {meth : Method} {c : Code} {dC : Nat → ClassId} {dI : Nat → Nat → Nat} {cy : Nat → ClassId} {ad : Nat → Nat} {A : Nat → Prop} {nL : Nat} {Q : State → Prop} {ce sl pc mc2 ms2 : Nat} {L : List Nat} {f : Nat → AC} {lv : List (Option Value)} {st st0 : List Value} {Po2 : AT} {H : Heap} {locs : List Loc} {ls : Array Slot} {a : Array Value}
    (hr : va_Run p l e R s m args below meth c H locs ce sl mc2 ms2 (F0 m pc ls st0) (st.map (rv ad)) ((fun (_ : Array Value) (st : State) (oc : Outcome) (t : State) => (∃ (r : Option Value) (L' : List Nat) (f' : Nat → AC), oc = .returned (r.map (rv ad)) ∧ Po2 r L' f' ∧ va_P (dC, dI) vwCl (wo cy ad L' f') t.heap ∧ vD (va_A (wo cy ad L f) H.size) cy ad L' f') ∧ va_F (va_A (wo cy ad L f) H.size) st t) a) (va_A (wo cy ad L f) H.size))
    (hD : vD A cy ad L f) (hS : va_S A s.heap H locs) (hA : ∀ q, s.heap.size ≤ q → A q) (hl : lv_has ls nL (al ad lv))
    (kk : ∀ (r : Option Value) (L' : List Nat) (f' : Nat → AC), Po2 r L' f' → VV p l e R s m args below meth c dC dI cy ad A nL Q (ce + mc2) (sl + ms2) L' f' (pc + 3) lv (r.toList ++ st)) : W p l e R s m args below meth c H locs ce sl Q (F0 m pc ls st0) := by
  intro T hT X
  have hF := call_free hD hS hA
  obtain ⟨v, st₀, t, T', Lc, h0, X', hL, e1, e2, ⟨⟨r, L', f', hv, hpo, hP1, hD1⟩, hz, hk⟩, stp⟩ := hr T hT X
  cases hv
  rw [h0] at hz hk
  have hS' : va_S A s.heap T'.heap (locs ++ Lc) := by
    refine ⟨Nat.le_trans hS.1 (by rw [e1]; exact hz), fun q h1 h2 => ?_, fun q hq => ?_⟩
    · rw [e1, hk q (Nat.lt_of_lt_of_le h1 hS.1) (fun z => h2 (hF q z))]
      exact hS.2.1 q h1 h2
    · rcases List.mem_append.mp hq with h | h
      · exact hS.2.2 q h
      · exact hF _ (hL q h)
  obtain ⟨t2, a1, b1⟩ := kk r L' f' hpo T'.heap (locs ++ Lc) ls (by rw [e1]; exact hP1) ⟨hD1.1.weaken (fun _ _ _ h => hF _ h), hD1.2⟩ hS' hl T' rfl X'
  refine ⟨t2, stp t2 ?_, b1⟩
  have : ((r.toList ++ st).map (rv ad)) = (r.map (rv ad)).toList ++ st.map (rv ad) := by cases r <;> simp
  rw [this] at a1
  exact a1
theorem cat_sum {ad : Nat → Nat} {st : List Value} (h : (st.map fun v => v.category).sum ≤ 8) : ((st.map (rv ad)).map fun v => v.category).sum ≤ 8 := by
  rw [List.map_map]
  have : ((fun v => v.category) ∘ rv ad) = fun v : Value => v.category := by funext v; exact rv_cat
  rw [this]
  exact h
theorem Cx.callV (C : Cx own cc nL rt ini d mc ms Po X) {y : MethodName} {cc2 : ByteArray} {nL2 : Nat} {rt2 : Option FieldType} {d2 mc2 ms2 idx n k ci : Nat} {as fs : List Value} {Po2 : AT} {T : u_T} {N : Nat} (M : AM y cc2 nL2 rt2 d2 mc2 ms2 (.ref k :: as) L f Po2) (cw : CW y cc2 nL2 rt2 n) (w1 : Cond.methodLink own idx y ∈ Om) (w2 : Cond.instanceMethod y ∈ Om) (w3 : Cond.selects y.cls y y ∈ Om) (dg : decode cc pc = .ok (.invokevirtual idx, 3)) (hk : k ∈ L) (hf : f k = .inr (ci, fs)) (hc : vwCl[ci]? = some (y.cls, T, N)) (hn : as.length = n) (hd : d2 + 1 ≤ d) (h1 : ce + mc2 ≤ mc) (h2 : sl + ms2 ≤ ms) (hs : (st.map fun v => v.category).sum ≤ 8) {st0 : List Value} (hst : st0 = as.reverse ++ .ref k :: st)
    (kk : ∀ (r : Option Value) (L' : List Nat) (f' : Nat → AC), Po2 r L' f' → X (ce + mc2) (sl + ms2) L' f' (pc + 3) lv (r.toList ++ st)) : X ce sl L f pc lv st0 := by
  obtain ⟨p, l, e, s, m, args, below, meth, c, dC, dI, cy, ad, A, Q, w0, ⟨hx, hb, hml, hown, hts⟩, hin0, hK, hA, hE, had, hret, rfl⟩ := C
  intro H locs ls hP hD hS hl
  subst hst
  obtain ⟨c1, c2, c3, c4, c5, c6⟩ := cw
  have hnk := hD.2.obj hk hf
  obtain ⟨i, hi, hwk⟩ := wo_get (cy := cy) (ad := ad) (f := f) hk hnk
  rw [hf] at hwk
  have hg : GoodIn (w0 :: Om) (wsV own idx y.cls y (Cond.code y cc2 nL2 rt2 :: Om)) := by
    intro w hw
    rcases List.mem_append.mp hw with h | h
    · simp only [List.mem_cons, List.not_mem_nil, or_false] at h
      rcases h with rfl | rfl | rfl | rfl
      · exact Om_w w1
      · exact Om_w w2
      · exact Om_w w3
      · exact Om_w c1
    · rcases List.mem_cons.mp h with rfl | h
      · exact Om_w c2
      · exact Om_w h
  refine call_go (a := #[]) (va_runV (As := as.map (rv ad)) (rest := st.map (rv ad)) (b := ad k) (C := y.cls) ⟨hx, hb, hml, hown, hts⟩ (M l dC dI cy ad H.size had) (cwV n hts hg rfl rfl rfl ⟨rfl, c3, c4, c5⟩ ⟨hd, by show 8 + (nL2 + 11) + (64 * d2 + 12) ≤ 64 * d + 12; omega⟩) ⟨call_fb, va_recv hK hP hc hwk, call_pre hP hD hS hA hK hE⟩ rfl (by rw [List.length_map]; exact hn) hl.1 ?_ (lv_room (cat_sum hs)) dg ⟨h1, h2⟩) hD hS hA hl kk
  show (as.reverse ++ .ref k :: st).map (rv ad) = _
  rw [List.map_append, List.map_reverse]
  rfl
theorem Cx.callS (C : Cx own cc nL rt ini d mc ms Po X) {y : MethodName} {cc2 : ByteArray} {nL2 : Nat} {rt2 : Option FieldType} {d2 mc2 ms2 idx n : Nat} {as : List Value} {Po2 : AT} (M : AM y cc2 nL2 rt2 d2 mc2 ms2 as L f Po2) (cw : CW y cc2 nL2 rt2 n) (w1 : Cond.methodLink own idx y ∈ Om) (w2 : Cond.static y ∈ Om) (dg : decode cc pc = .ok (.invokestatic idx, 3)) (hn : as.length = n) (hd : d2 + 1 ≤ d) (h1 : ce + mc2 ≤ mc) (h2 : sl + ms2 ≤ ms) (hs : (st.map fun v => v.category).sum ≤ 8) {st0 : List Value} (hst : st0 = as.reverse ++ st)
    (kk : ∀ (r : Option Value) (L' : List Nat) (f' : Nat → AC), Po2 r L' f' → X (ce + mc2) (sl + ms2) L' f' (pc + 3) lv (r.toList ++ st)) : X ce sl L f pc lv st0 := by
  obtain ⟨p, l, e, s, m, args, below, meth, c, dC, dI, cy, ad, A, Q, w0, ⟨hx, hb, hml, hown, hts⟩, hin0, hK, hA, hE, had, hret, rfl⟩ := C
  intro H locs ls hP hD hS hl
  subst hst
  obtain ⟨c1, c2, c3, c4, c5, c6⟩ := cw
  have hg : GoodIn (w0 :: Om) (va_wsS own idx y (Cond.code y cc2 nL2 rt2 :: Om)) := by
    intro w hw
    rcases List.mem_append.mp hw with h | h
    · simp only [List.mem_cons, List.not_mem_nil, or_false] at h
      rcases h with rfl | rfl | rfl
      · exact Om_w w1
      · exact Om_w w2
      · exact Om_w c1
    · rcases List.mem_cons.mp h with rfl | h
      · exact Om_w c2
      · exact Om_w h
  refine call_go (a := #[]) (va_runS (As := as.map (rv ad)) (rest := st.map (rv ad)) ⟨hx, hb, hml, hown, hts⟩ (M l dC dI cy ad H.size had) (va_cwS n hts hg rfl rfl rfl ⟨c3, c4, c5⟩ ⟨hd, by show 8 + (nL2 + 11) + (64 * d2 + 12) ≤ 64 * d + 12; omega⟩) ⟨call_fb, call_pre hP hD hS hA hK hE⟩ rfl (by rw [List.length_map]; exact hn) hl.1 ?_ (lv_room (cat_sum hs)) dg ⟨h1, h2⟩) hD hS hA hl kk
  show (as.reverse ++ st).map (rv ad) = _
  rw [List.map_append, List.map_reverse]
theorem Cx.callI (C : Cx own cc nL rt ini d mc ms Po X) {y : MethodName} {cc2 : ByteArray} {nL2 : Nat} {d2 mc2 ms2 idx n k : Nat} {as : List Value} {Po2 : AT} (M : AM y cc2 nL2 none d2 mc2 ms2 (.ref k :: as) L f Po2) (cw : CW y cc2 nL2 none n) (w1 : Cond.methodLink own idx y ∈ Om) (w2 : Cond.instanceMethod y ∈ Om) (hy1 : y.name = "<init>") (dg : decode cc pc = .ok (.invokespecial idx, 3)) (hn : as.length = n) (hd : d2 + 1 ≤ d) (h1 : ce + mc2 ≤ mc) (h2 : sl + ms2 ≤ ms) (hs : (st.map fun v => v.category).sum ≤ 8) {st0 : List Value} (hst : st0 = as.reverse ++ .ref k :: st)
    (kk : ∀ (r : Option Value) (L' : List Nat) (f' : Nat → AC), Po2 r L' f' → X (ce + mc2) (sl + ms2) L' f' (pc + 3) lv (r.toList ++ st)) : X ce sl L f pc lv st0 := by
  obtain ⟨p, l, e, s, m, args, below, meth, c, dC, dI, cy, ad, A, Q, w0, ⟨hx, hb, hml, hown, hts⟩, hin0, hK, hA, hE, had, hret, rfl⟩ := C
  intro H locs ls hP hD hS hl
  subst hst
  obtain ⟨c1, c2, c3, c4, c5, c6⟩ := cw
  refine call_go (a := #[]) (va_runI (As := as.map (rv ad)) (rest := st.map (rv ad)) (b := ad k) ⟨hx, hb, hml, hown, hts⟩ (M l dC dI cy ad H.size had) (cwI n hts (Om_in c2) rfl rfl rfl (hts _ (List.mem_cons_of_mem _ c1)) (hts _ (List.mem_cons_of_mem _ w1)) (hts _ (List.mem_cons_of_mem _ w2)) hy1 ⟨c3, c4, c5⟩ ⟨hd, by show 8 + (nL2 + 11) + (64 * d2 + 12) ≤ 64 * d + 12; omega⟩) ⟨call_fb, call_pre (as := .ref k :: as) hP hD hS hA hK hE⟩ rfl (by rw [List.length_map]; exact hn) hl.1 ?_ (lv_room (cat_sum hs)) dg ⟨h1, h2⟩) hD hS hA hl kk
  show (as.reverse ++ .ref k :: st).map (rv ad) = _
  rw [List.map_append, List.map_reverse]
  rfl
end ROWS2
