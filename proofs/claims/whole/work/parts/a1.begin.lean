/-! the law's beginning: both objects are made, then they get their numbers -/
def c0S : SF := fun j => if j = 5 then -1 else if j = 32 then 3 else if j = 51 then 17 else if j = 141 then 17 else if j = 161 then 17 else 0
def sf0S : SF := fun j => if j = 25 then -1 else 0
def z0S : SA := fun _ _ => 0
def g0S : Nat → AC := fun k => if k = 35 then cj_ 3 1 (fun _ => 0) else oc k
def f0S : Nat → AC := kv c0S z0S (ov sf0S z0S g0S)
def L0S : List Nat := [17, 18, 19, 0, 1, 2, 3, 4, 5, 6, 7, 8, 9, 10, 11, 12, 13, 14, 15, 16, 20, 21, 22, 23, 24, 25, 26, 27, 28, 29, 30, 31, 32, 33, 34, 35]
theorem L0S_mem : ∀ k, k < 36 → k ∈ L0S := by decide
theorem f0S_kv : f0S = kv c0S z0S f0S := kv_idem.symm
theorem f0S_ov : f0S = ov sf0S z0S f0S := by
  have e : f0S = ov sf0S z0S (kv c0S z0S g0S) := kv_ov _ _ _ _ _
  funext q
  by_cases hq : 20 ≤ q ∧ q < 35
  · rw [e]
    exact ov_in hq.1 hq.2
  · exact (ov_out (by omega)).symm
theorem LtAt0 {lt : Nat} (h : lt = 4 ∨ lt = 13 ∨ lt = 15) : LtAt L0S f0S lt 17 [] := by
  rcases h with rfl | rfl | rfl
  · exact ⟨⟨by decide, by decide, rfl⟩, ⟨0, ⟨0, (fun _ => none), rfl, rfl, (fun i y h => by cases h), (fun i y h => by cases h)⟩, ⟨by decide, by decide⟩, Nat.le_refl _, by decide, ⟨fun _ => rfl, fun _ => rfl⟩⟩, fun p hp => by cases hp⟩
  · exact ⟨⟨by decide, by decide, rfl⟩, ⟨0, ⟨0, (fun _ => none), rfl, rfl, (fun i y h => by cases h), (fun i y h => by cases h)⟩, ⟨by decide, by decide⟩, Nat.le_refl _, by decide, ⟨fun _ => rfl, fun _ => rfl⟩⟩, fun p hp => by cases hp⟩
  · exact ⟨⟨by decide, by decide, rfl⟩, ⟨0, ⟨0, (fun _ => none), rfl, rfl, (fun i y h => by cases h), (fun i y h => by cases h)⟩, ⟨by decide, by decide⟩, Nat.le_refl _, by decide, ⟨fun _ => rfl, fun _ => rfl⟩⟩, fun p hp => by cases hp⟩
theorem RI0 : RI 0 L0S f0S := by
  refine ⟨c0S, z0S, sf0S, z0S, [], [], 0, ⟨17, 17, 17, [], [], ⟨⟨f0S_kv, L0S_mem, ⟨by decide, rfl⟩⟩, ⟨⟨[], LtAt0 (Or.inl rfl)⟩, LtAt0 (Or.inr (Or.inl rfl)), LtAt0 (Or.inr (Or.inr rfl))⟩, ⟨fun _ => rfl, fun _ => rfl, fun _ => rfl⟩, Or.inl rfl, Or.inl rfl, Or.inl rfl⟩, rfl, rfl⟩, ⟨f0S_ov, _, rfl⟩, ?_⟩
  refine ⟨⟨⟨rfl, rfl, Nat.zero_le _⟩, rfl, fun j => ⟨(show (-128 : Int) ≤ 0 by decide), (show (0 : Int) < 128 by decide)⟩⟩, ⟨rfl, rfl, rfl, (show (0 : Int) ≤ 0 by decide), (show (0 : Int) ≤ 0 by decide)⟩, Or.inl ⟨rfl, rfl, rfl, rfl⟩, ⟨rfl, rfl⟩, ⟨(fun i x h => by cases h), (fun i x h => by cases h)⟩, ⟨Nat.zero_le _, Nat.zero_le _, Nat.zero_le _, Nat.zero_le _⟩, Nat.zero_le _, (fun y h => by cases h), Nat.zero_le _⟩
theorem OO0 : OO L0S f0S := by
  intro k hk hn
  rcases nO_cases hn with rfl | rfl | rfl <;> rfl
/-- the numbers: 0 to 16 and 20 to 35 for the thirty-three things m -/
def sgS (m : List Nat) (k : Nat) : Nat := (m.take 17 ++ [17, 18, 19] ++ m.drop 17).getD k k
theorem sgS_ge {m : List Nat} (hm : m.length = 33) {k : Nat} (hk : 36 ≤ k) : sgS m k = k := by
  unfold sgS
  rw [List.getD_eq_getElem?_getD, List.getElem?_eq_none (by simp only [List.length_append, List.length_take, List.length_drop, List.length_cons, List.length_nil]; omega)]
  rfl
theorem FI_sum {x : Nat} {cs : List (Nat × AC)} {L : List Nat} {f : Nat → AC} {f0 : Nat → AC} (J : FI x cs [17, 18, 19] f0 L f) (hl : cs.length = 33) : L.filter notO = (L0S.filter notO).map (sgS (cs.map (fun p => p.1))) := by
  have e1 : L = [17, 18, 19] ++ cs.map (fun p => p.1) := J.1
  have e2 : (cs.map (fun p => p.1)).filter notO = cs.map (fun p => p.1) := List.filter_eq_self.mpr (fun a ha => by
    obtain ⟨p, hp, rfl⟩ := List.mem_map.mp ha
    exact nO_big (J.2.1 p hp).2.1)
  have e3 : ([17, 18, 19] : List Nat).filter notO = [] := by decide
  have e4 : L0S.filter notO = [0, 1, 2, 3, 4, 5, 6, 7, 8, 9, 10, 11, 12, 13, 14, 15, 16, 20, 21, 22, 23, 24, 25, 26, 27, 28, 29, 30, 31, 32, 33, 34, 35] := by decide
  rw [e1, List.filter_append, e2, e3, List.nil_append, e4]
  have hm : (cs.map (fun p => p.1)).length = 33 := by rw [List.length_map]; exact hl
  generalize cs.map (fun p => p.1) = m at hm ⊢
  rcases m with _ | ⟨zz0, m⟩
  · exact absurd hm (by simp)
  rcases m with _ | ⟨zz1, m⟩
  · exact absurd hm (by simp)
  rcases m with _ | ⟨zz2, m⟩
  · exact absurd hm (by simp)
  rcases m with _ | ⟨zz3, m⟩
  · exact absurd hm (by simp)
  rcases m with _ | ⟨zz4, m⟩
  · exact absurd hm (by simp)
  rcases m with _ | ⟨zz5, m⟩
  · exact absurd hm (by simp)
  rcases m with _ | ⟨zz6, m⟩
  · exact absurd hm (by simp)
  rcases m with _ | ⟨zz7, m⟩
  · exact absurd hm (by simp)
  rcases m with _ | ⟨zz8, m⟩
  · exact absurd hm (by simp)
  rcases m with _ | ⟨zz9, m⟩
  · exact absurd hm (by simp)
  rcases m with _ | ⟨zz10, m⟩
  · exact absurd hm (by simp)
  rcases m with _ | ⟨zz11, m⟩
  · exact absurd hm (by simp)
  rcases m with _ | ⟨zz12, m⟩
  · exact absurd hm (by simp)
  rcases m with _ | ⟨zz13, m⟩
  · exact absurd hm (by simp)
  rcases m with _ | ⟨zz14, m⟩
  · exact absurd hm (by simp)
  rcases m with _ | ⟨zz15, m⟩
  · exact absurd hm (by simp)
  rcases m with _ | ⟨zz16, m⟩
  · exact absurd hm (by simp)
  rcases m with _ | ⟨zz17, m⟩
  · exact absurd hm (by simp)
  rcases m with _ | ⟨zz18, m⟩
  · exact absurd hm (by simp)
  rcases m with _ | ⟨zz19, m⟩
  · exact absurd hm (by simp)
  rcases m with _ | ⟨zz20, m⟩
  · exact absurd hm (by simp)
  rcases m with _ | ⟨zz21, m⟩
  · exact absurd hm (by simp)
  rcases m with _ | ⟨zz22, m⟩
  · exact absurd hm (by simp)
  rcases m with _ | ⟨zz23, m⟩
  · exact absurd hm (by simp)
  rcases m with _ | ⟨zz24, m⟩
  · exact absurd hm (by simp)
  rcases m with _ | ⟨zz25, m⟩
  · exact absurd hm (by simp)
  rcases m with _ | ⟨zz26, m⟩
  · exact absurd hm (by simp)
  rcases m with _ | ⟨zz27, m⟩
  · exact absurd hm (by simp)
  rcases m with _ | ⟨zz28, m⟩
  · exact absurd hm (by simp)
  rcases m with _ | ⟨zz29, m⟩
  · exact absurd hm (by simp)
  rcases m with _ | ⟨zz30, m⟩
  · exact absurd hm (by simp)
  rcases m with _ | ⟨zz31, m⟩
  · exact absurd hm (by simp)
  rcases m with _ | ⟨zz32, m⟩
  · exact absurd hm (by simp)
  rcases m with _ | ⟨zz33, m⟩
  · rfl
  · exact absurd hm (by simp only [List.length_cons]; omega)
