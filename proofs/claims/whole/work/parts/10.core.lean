/-! values by index: a reference is a number of ours, ad gives its address -/
def rv (ad : Nat → Nat) : Value → Value
  | .ref k => .ref (ad k)
  | v => v
/-- a cell by index: an array (its kind, its row) or an object (its class's number, its fields) -/
abbrev AC : Type := (Nat × vp_A) ⊕ (Nat × List Value)
abbrev ci_ (t n : Nat) (g : Nat → Int32) : AC := .inl (t, n, .inl g)
abbrev cj_ (t n : Nat) (g : Nat → Int64) : AC := .inl (t, n, .inr (.inl g))
abbrev cr_ (t n : Nat) (g : Nat → Option Nat) : AC := .inl (t, n, .inr (.inr (.inr (.inr g))))
abbrev co_ (k : Nat) (fs : List Value) : AC := .inr (k, fs)
def rc (cy : Nat → ClassId) (ad : Nat → Nat) : AC → va_E
  | .inl (t, n, .inl g) => .inl (cy t, n, .inl g)
  | .inl (t, n, .inr (.inl g)) => .inl (cy t, n, .inr (.inl g))
  | .inl (t, n, .inr (.inr (.inl g))) => .inl (cy t, n, .inr (.inr (.inl g)))
  | .inl (t, n, .inr (.inr (.inr (.inl g)))) => .inl (cy t, n, .inr (.inr (.inr (.inl g))))
  | .inl (t, n, .inr (.inr (.inr (.inr g)))) => .inl (cy t, n, .inr (.inr (.inr (.inr (fun i => (g i).map ad)))))
  | .inr (k, fs) => .inr (k, fs.map (rv ad))
/-- 17, 18, 19 lie outside of the kit's world: arrays that were there before, and are never written -/
def notO (k : Nat) : Bool := !(k == 17 || (k == 18 || k == 19))
def trL0 : List Int64 := [-6148914691236517206, -3689348814741910324, -1085102592571150096, -71777214294589696, -281470681808896, -4294967296]
def oc (k : Nat) : AC := if k = 17 then cr_ 5 0 (fun _ => none) else if k = 18 then cj_ 3 6 (fun i => trL0.getD i 0) else ci_ 9 0 (fun _ => 0)
def OO (L : List Nat) (f : Nat → AC) : Prop := ∀ k ∈ L, notO k = false → f k = oc k
theorem nO_cases {k : Nat} (h : notO k = false) : k = 17 ∨ k = 18 ∨ k = 19 := by
  unfold notO at h
  simp at h
  omega
theorem nO_big {k : Nat} (h : 2000 ≤ k) : notO k = true := by
  cases hk : notO k
  · have := nO_cases hk
    omega
  · rfl
theorem OO.obj {L : List Nat} {f : Nat → AC} (h : OO L f) {k : Nat} (hk : k ∈ L) {x : Nat × List Value} (hf : f k = .inr x) : notO k = true := by
  cases hn : notO k
  · have h1 := h k hk hn
    rw [hf] at h1
    rcases nO_cases hn with rfl | rfl | rfl <;> cases h1
  · rfl
theorem OO.arr {L : List Nat} {f : Nat → AC} (h : OO L f) {k t : Nat} (hk : k ∈ L) {x : vp_A} (hf : f k = .inl (t, x)) (ht : t ≠ 5 ∧ t ≠ 3 ∧ t ≠ 9) : notO k = true := by
  cases hn : notO k
  · have h1 := h k hk hn
    rw [hf] at h1
    rcases nO_cases hn with rfl | rfl | rfl
    · exact absurd (congrArg (fun z : AC => match z with | .inl y => y.1 | .inr _ => 0) h1) ht.1
    · exact absurd (congrArg (fun z : AC => match z with | .inl y => y.1 | .inr _ => 0) h1) ht.2.1
    · exact absurd (congrArg (fun z : AC => match z with | .inl y => y.1 | .inr _ => 0) h1) ht.2.2
  · rfl
theorem OO.arr5 {L : List Nat} {f : Nat → AC} (h : OO L f) {k t n : Nat} {g} (hk : k ∈ L) (hf : f k = .inl (t, n, g)) (ht : t = 5) (hn0 : n ≠ 0) : notO k = true := by
  cases hn : notO k
  · have h1 := h k hk hn
    rw [hf, ht] at h1
    rcases nO_cases hn with rfl | rfl | rfl
    · exact absurd (congrArg (fun z : AC => match z with | .inl y => y.2.1 | .inr _ => 0) h1) hn0
    · exact absurd (congrArg (fun z : AC => match z with | .inl y => y.1 | .inr _ => 0) h1) (show ¬ (5 : Nat) = 3 from by decide)
    · exact absurd (congrArg (fun z : AC => match z with | .inl y => y.1 | .inr _ => 0) h1) (show ¬ (5 : Nat) = 9 from by decide)
  · rfl
theorem OO.up {L : List Nat} {f : Nat → AC} (h : OO L f) {k : Nat} {e : AC} (hk : notO k = true) : OO L (va_up f k e) := by
  intro q hq hn
  rw [va_up_ne _ _ (fun (e : q = k) => by rw [e, hk] at hn; cases hn)]
  exact h q hq hn
theorem OO.psh {L : List Nat} {f : Nat → AC} (h : OO L f) {k : Nat} {e : AC} (hk : 2000 ≤ k) : OO (L ++ [k]) (va_up f k e) := by
  intro q hq hn
  have hne : q ≠ k := fun e => by rw [e, nO_big hk] at hn; cases hn
  rw [va_up_ne _ _ hne]
  rcases List.mem_append.mp hq with h1 | h1
  · exact h q h1 hn
  · exact absurd (List.mem_singleton.mp h1) hne
/-- the world of the cells L, each with what f says -/
def wo (cy : Nat → ClassId) (ad : Nat → Nat) (L : List Nat) (f : Nat → AC) : va_W := (L.filter notO).map (fun k => (ad k, rc cy ad (f k)))
/-- the world's addresses are apart; what lies outside is as it was -/
def vD (A : Nat → Prop) (cy : Nat → ClassId) (ad : Nat → Nat) (L : List Nat) (f : Nat → AC) : Prop := va_D A (wo cy ad L f) ∧ OO L f
theorem wo_get {cy : Nat → ClassId} {ad : Nat → Nat} {L : List Nat} {f : Nat → AC} {k : Nat} (h : k ∈ L) (hn : notO k = true) : ∃ i : Nat, (L.filter notO)[i]? = some k ∧ (wo cy ad L f)[i]? = some (ad k, rc cy ad (f k)) := by
  obtain ⟨i, hi⟩ := List.getElem?_of_mem (List.mem_filter.mpr ⟨h, hn⟩)
  refine ⟨i, hi, ?_⟩
  unfold wo
  rw [List.getElem?_map, hi]
  rfl
theorem wo_set {cy : Nat → ClassId} {ad : Nat → Nat} {A : Nat → Prop} {L : List Nat} {f : Nat → AC} {k i : Nat} {e : AC} (hD : va_D A (wo cy ad L f)) (hi : (L.filter notO)[i]? = some k) : (wo cy ad L f).set i (ad k, rc cy ad e) = wo cy ad L (va_up f k e) := by
  have hil : i < (L.filter notO).length := (List.getElem?_eq_some_iff.mp hi).1
  apply List.ext_getElem?
  intro j
  by_cases hj : j = i
  · subst hj
    rw [List.getElem?_set_self (by unfold wo; rw [List.length_map]; exact hil)]
    unfold wo
    rw [List.getElem?_map, hi]
    simp [va_up_self]
  · rw [List.getElem?_set_ne (Ne.symm hj)]
    unfold wo
    rw [List.getElem?_map, List.getElem?_map]
    cases hk : (L.filter notO)[j]? with
    | none => rfl
    | some k' =>
      have hne : k' ≠ k := by
        intro hkk
        subst hkk
        refine hj (hD.1 j i (ad k', rc cy ad (f k')) (ad k', rc cy ad (f k')) ?_ ?_ rfl)
        · unfold wo; rw [List.getElem?_map, hk]; rfl
        · unfold wo; rw [List.getElem?_map, hi]; rfl
      simp [va_up_ne _ _ hne]
theorem wo_push {cy : Nat → ClassId} {ad : Nat → Nat} {L : List Nat} {f : Nat → AC} {k : Nat} {e : AC} (h : k ∉ L) (hn : notO k = true) : wo cy ad (L ++ [k]) (va_up f k e) = wo cy ad L f ++ [(ad k, rc cy ad e)] := by
  unfold wo
  rw [List.filter_append, List.filter_cons_of_pos hn, List.filter_nil, List.map_append, List.map_singleton, va_up_self]
  congr 1
  apply List.map_congr_left
  intro a ha
  rw [va_up_ne _ _ (fun (hk : a = k) => h (hk ▸ (List.mem_filter.mp ha).1))]
/-- the locals that are known, by their places -/
def al (ad : Nat → Nat) (lv : List (Option Value)) : List (Nat × Value) := (List.range lv.length).filterMap (fun i => (lv.getD i none).map (fun v => (i, rv ad v)))
theorem al_mem {ad : Nat → Nat} {lv : List (Option Value)} {q : Nat × Value} : q ∈ al ad lv ↔ ∃ v, lv[q.1]? = some (some v) ∧ q.2 = rv ad v := by
  unfold al
  rw [List.mem_filterMap]
  constructor
  · rintro ⟨i, hi, h⟩
    rw [List.mem_range] at hi
    cases hv : lv.getD i none with
    | none => rw [hv] at h; cases h
    | some v =>
      rw [hv] at h
      cases h
      refine ⟨v, ?_, rfl⟩
      rw [List.getD_eq_getElem?_getD, List.getElem?_eq_getElem hi] at hv
      rw [List.getElem?_eq_getElem hi]
      exact congrArg some hv
  · rintro ⟨v, h1, h2⟩
    have hl := (List.getElem?_eq_some_iff.mp h1).1
    refine ⟨q.1, List.mem_range.mpr hl, ?_⟩
    rw [List.getD_eq_getElem?_getD, h1]
    obtain ⟨a, b⟩ := q
    cases h2
    rfl
theorem al_has {ad : Nat → Nat} {lv : List (Option Value)} {ls : Array Slot} {nL i : Nat} {v : Value} (h : lv_has ls nL (al ad lv)) (hv : lv[i]? = some (some v)) : ls[i]? = some (.val (rv ad v)) := h.2.2 (i, rv ad v) (al_mem.mpr ⟨v, hv, rfl⟩)
/-- no wide value lies just below place i -/
def nw (lv : List (Option Value)) (i : Nat) : Bool := match i with
  | 0 => true
  | j + 1 => match lv[j]? with
    | some (some (.long _)) => false
    | some (some (.double _)) => false
    | _ => true
theorem nw_ok {lv : List (Option Value)} {i j : Nat} {v : Value} {ad : Nat → Nat} (h : nw lv i = true) (hj : j + 1 = i) (hv : lv[j]? = some (some v)) : ¬ (rv ad v).category = 2 := by
  subst hj
  unfold nw at h
  cases v <;> simp_all [rv, Value.category]
theorem al_set {ad : Nat → Nat} {lv : List (Option Value)} {ls : Array Slot} {nL i : Nat} {v : Value} (hn : nw lv i = true) (h : lv_has ls nL ((i, rv ad v) :: (al ad lv).filter (fun q => !(q.1 == i) && !(q.1 + 1 == i && q.2.category == 2)))) : lv_has ls nL (al ad (lv.set i (some v))) := by
  refine ⟨h.1, h.2.1, fun q hq => ?_⟩
  obtain ⟨w, h1, h2⟩ := al_mem.mp hq
  obtain ⟨j, z⟩ := q
  dsimp only at h1 h2 ⊢
  subst h2
  by_cases hj : j = i
  · subst hj
    have hl : j < lv.length := by
      have := (List.getElem?_eq_some_iff.mp h1).1
      rwa [List.length_set] at this
    rw [List.getElem?_set_self hl] at h1
    cases h1
    exact h.2.2 _ List.mem_cons_self
  · rw [List.getElem?_set_ne (Ne.symm hj)] at h1
    refine h.2.2 (j, rv ad w) (List.mem_cons_of_mem _ (List.mem_filter.mpr ⟨al_mem.mpr ⟨w, h1, rfl⟩, ?_⟩))
    have hc : j + 1 = i → ¬ (rv ad w).category = 2 := fun e => nw_ok hn e h1
    simp only [Bool.and_eq_true, Bool.not_eq_true', beq_eq_false_iff_ne, Bool.and_eq_false_imp, beq_iff_eq]
    exact ⟨hj, hc⟩
theorem al_setl {ad : Nat → Nat} {lv : List (Option Value)} {ls : Array Slot} {nL i : Nat} {v : Value} (hn : nw lv i = true) (h : lv_has ls nL ((i, rv ad v) :: (al ad lv).filter (fun q => !(q.1 == i) && (!(q.1 == i + 1) && !(q.1 + 1 == i && q.2.category == 2))))) : lv_has ls nL (al ad ((lv.set i (some v)).set (i + 1) none)) := by
  refine ⟨h.1, h.2.1, fun q hq => ?_⟩
  obtain ⟨w, h1, h2⟩ := al_mem.mp hq
  obtain ⟨j, z⟩ := q
  dsimp only at h1 h2 ⊢
  subst h2
  by_cases hj1 : j = i + 1
  · subst hj1
    have hl := (List.getElem?_eq_some_iff.mp h1).1
    rw [List.length_set] at hl
    rw [List.getElem?_set_self hl] at h1
    cases h1
  rw [List.getElem?_set_ne (Ne.symm hj1)] at h1
  by_cases hj : j = i
  · subst hj
    have hl : j < lv.length := by
      have := (List.getElem?_eq_some_iff.mp h1).1
      rwa [List.length_set] at this
    rw [List.getElem?_set_self hl] at h1
    cases h1
    exact h.2.2 _ List.mem_cons_self
  · rw [List.getElem?_set_ne (Ne.symm hj)] at h1
    refine h.2.2 (j, rv ad w) (List.mem_cons_of_mem _ (List.mem_filter.mpr ⟨al_mem.mpr ⟨w, h1, rfl⟩, ?_⟩))
    have hc : j + 1 = i → ¬ (rv ad w).category = 2 := fun e => nw_ok hn e h1
    simp only [Bool.and_eq_true, Bool.not_eq_true', beq_eq_false_iff_ne, Bool.and_eq_false_imp, beq_iff_eq]
    exact ⟨hj, hj1, hc⟩
/-- the words that every method is told with -/
abbrev thN : List String := ["java/lang/RuntimeException", "java/lang/Exception"]
def tx0 : List Cond := (vx_atS RX8 73 "java/lang/IllegalArgumentException" thN).filter goodWord
def tx1 : List Cond := (vx_atS RX8 165 "java/lang/IndexOutOfBoundsException" thN).filter goodWord
def tx2 : List Cond := (vx_atS RX8 160 "java/lang/IllegalStateException" thN).filter goodWord
def tx3 : List Cond := neW.filter goodWord
def Om : List Cond := wsL_law0 ++ tx0 ++ tx1 ++ tx2 ++ tx3
theorem om_0 {w : Cond} (h : w ∈ wsL_law0) : w ∈ Om := List.mem_append_left _ (List.mem_append_left _ (List.mem_append_left _ (List.mem_append_left _ h)))
theorem om_tx0 {w : Cond} (h : w ∈ tx0) : w ∈ Om := List.mem_append_left _ (List.mem_append_left _ (List.mem_append_left _ (List.mem_append_right _ h)))
theorem om_tx1 {w : Cond} (h : w ∈ tx1) : w ∈ Om := List.mem_append_left _ (List.mem_append_left _ (List.mem_append_right _ h))
theorem om_tx2 {w : Cond} (h : w ∈ tx2) : w ∈ Om := List.mem_append_left _ (List.mem_append_right _ h)
theorem om_tx3 {w : Cond} (h : w ∈ tx3) : w ∈ Om := List.mem_append_right _ h
set_option maxRecDepth 100000 in
theorem Om_good : Om.all goodWord = true := by decide +kernel
theorem Om_in {a : Cond} (hz : a ∈ Om) {b : Cond} : GoodIn (b :: Om) (a :: Om) := fun w hw => by
  have h1 : w ∈ Om := by rcases List.mem_cons.mp hw with h | h; · rw [h]; exact hz
                         · exact h
  exact ⟨List.mem_cons_of_mem _ h1, good_of_word (List.all_eq_true.mp Om_good w h1)⟩
