/-! constructors -/
def FI (x : Nat) (cs : List (Nat × AC)) (L0 : List Nat) (f0 : Nat → AC) (L : List Nat) (f : Nat → AC) : Prop :=
  L = L0 ++ cs.map (fun p => p.1) ∧ (∀ p ∈ cs, p.1 ∉ L0 ∧ 2000 ≤ p.1 ∧ f p.1 = p.2) ∧ (cs.map (fun p => p.1)).Nodup ∧ ∀ q ∈ L0, q ≠ x → f q = f0 q
/-- the object x is being made: its fields fs, the new things cs -/
def CI (x ci : Nat) (fs : List Value) (cs : List (Nat × AC)) (L0 : List Nat) (f0 : Nat → AC) (L : List Nat) (f : Nat → AC) : Prop := x ∈ L0 ∧ f x = .inr (ci, fs) ∧ FI x cs L0 f0 L f
section CTOR
variable {x ci : Nat} {fs : List Value} {cs : List (Nat × AC)} {L0 L : List Nat} {f0 f : Nat → AC}
theorem ne_mem {a b : Nat} {M : List Nat} (ha : a ∈ M) (hb : b ∉ M) : a ≠ b := fun e => hb (e ▸ ha)
theorem FI.start : FI x [] L f L f := ⟨by simp, fun p h => (by cases h), List.nodup_nil, fun q _ _ => rfl⟩
theorem CI.start (h1 : x ∈ L) (h2 : f x = .inr (ci, fs)) : CI x ci fs [] L f L f := ⟨h1, h2, FI.start⟩
theorem FI.sub (I : FI x cs L0 f0 L f) {q : Nat} (h : q ∈ L0) : q ∈ L := by rw [I.1]; exact List.mem_append_left _ h
theorem FI.mem (I : FI x cs L0 f0 L f) {p : Nat × AC} (h : p ∈ cs) : p.1 ∈ L := by rw [I.1]; exact List.mem_append_right _ (List.mem_map.mpr ⟨p, h, rfl⟩)
theorem CI.put {fs' : List Value} (I : CI x ci fs cs L0 f0 L f) : CI x ci fs' cs L0 f0 L (va_up f x (.inr (ci, fs'))) := by
  obtain ⟨h1, h2, h3, h4, h5, h6⟩ := I
  exact ⟨h1, va_up_self _ _ _, h3, fun p hp => ⟨(h4 p hp).1, (h4 p hp).2.1, by rw [va_up_ne _ _ (ne_mem h1 (h4 p hp).1).symm]; exact (h4 p hp).2.2⟩, h5, fun q hq hne => by rw [va_up_ne _ _ hne]; exact h6 q hq hne⟩
theorem FI.push {k : Nat} {e : AC} (I : FI x cs L0 f0 L f) (hk : k ∉ L) (h2 : 2000 ≤ k) : FI x (cs ++ [(k, e)]) L0 f0 (L ++ [k]) (va_up f k e) := by
  obtain ⟨h3, h4, h5, h6⟩ := I
  have I' : FI x cs L0 f0 L f := ⟨h3, h4, h5, h6⟩
  refine ⟨by rw [h3, List.map_append, List.append_assoc]; rfl, fun p hp => ?_, ?_, fun q hq hne => ?_⟩
  · rcases List.mem_append.mp hp with h | h
    · exact ⟨(h4 p h).1, (h4 p h).2.1, by rw [va_up_ne _ _ (ne_mem (I'.mem h) hk)]; exact (h4 p h).2.2⟩
    · obtain rfl := List.mem_singleton.mp h
      exact ⟨fun h => hk (I'.sub h), h2, va_up_self _ _ _⟩
  · rw [List.map_append]
    refine List.nodup_append.mpr ⟨h5, List.nodup_cons.mpr ⟨by simp, List.nodup_nil⟩, fun a ha b hb e => ?_⟩
    obtain ⟨p, hp, rfl⟩ := List.mem_map.mp ha
    simp only [List.map_cons, List.map_nil, List.mem_singleton] at hb
    exact ne_mem (I'.mem hp) hk (e.trans hb)
  · rw [va_up_ne _ _ (ne_mem (I'.sub hq) hk)]
    exact h6 q hq hne
theorem CI.push {k : Nat} {e : AC} (I : CI x ci fs cs L0 f0 L f) (hk : k ∉ L) (h2 : 2000 ≤ k) : CI x ci fs (cs ++ [(k, e)]) L0 f0 (L ++ [k]) (va_up f k e) := by
  refine ⟨I.1, ?_, I.2.2.push hk h2⟩
  rw [va_up_ne _ _ (ne_mem (I.2.2.sub I.1) hk)]
  exact I.2.1
theorem FI.app {k ci2 : Nat} {fs2 : List Value} {cs2 : List (Nat × AC)} {f1 f2 : Nat → AC} {L2 : List Nat} (I : FI x cs L0 f0 L f) (hk : k ∉ L) (h2 : 2000 ≤ k) (J : CI k ci2 fs2 cs2 (L ++ [k]) f1 L2 f2) (hf1 : ∀ q ∈ L, f1 q = f q) :
    FI x (cs ++ (k, .inr (ci2, fs2)) :: cs2) L0 f0 L2 f2 ∧ ∀ q ∈ L, f2 q = f q := by
  obtain ⟨j1, j2, j3, j4, j5, j6⟩ := J
  have hfr : ∀ q ∈ L, f2 q = f q := fun q hq => by
    rw [j6 q (List.mem_append_left _ hq) (ne_mem hq hk)]
    exact hf1 q hq
  have I' := I
  obtain ⟨h3, h4, h5, h6⟩ := I
  refine ⟨⟨?_, fun p hp => ?_, ?_, fun q hq hne => ?_⟩, hfr⟩
  · rw [j3, h3, List.map_append, List.map_cons, List.append_assoc, List.append_assoc]
    rfl
  · rcases List.mem_append.mp hp with h | h
    · exact ⟨(h4 p h).1, (h4 p h).2.1, by rw [hfr _ (I'.mem h)]; exact (h4 p h).2.2⟩
    · rcases List.mem_cons.mp h with rfl | h
      · exact ⟨fun h => hk (I'.sub h), h2, j2⟩
      · exact ⟨fun hq => (j4 p h).1 (List.mem_append_left _ (I'.sub hq)), (j4 p h).2.1, (j4 p h).2.2⟩
  · rw [List.map_append, List.map_cons]
    refine List.nodup_append.mpr ⟨h5, List.nodup_cons.mpr ⟨fun h => ?_, j5⟩, fun a ha b hb e => ?_⟩
    · obtain ⟨p, hp, e⟩ := List.mem_map.mp h
      have e : p.1 = k := e
      exact (j4 p hp).1 (List.mem_append_right _ (by rw [e]; exact List.mem_singleton.mpr rfl))
    · obtain ⟨p, hp, rfl⟩ := List.mem_map.mp ha
      rcases List.mem_cons.mp hb with h | h
      · exact ne_mem (I'.mem hp) hk (e.trans h)
      · obtain ⟨p2, hp2, rfl⟩ := List.mem_map.mp h
        have hm := I'.mem hp
        rw [show p.1 = p2.1 from e] at hm
        exact (j4 p2 hp2).1 (List.mem_append_left _ hm)
  · rw [hfr q (I'.sub hq)]
    exact h6 q hq hne
/-- the contract of a constructor -/
def CN (y : MethodName) (cc : ByteArray) (ci : Nat) (fs0 : List Value) (d mc ms : Nat) (D : List (Nat × AC) → List Value → Prop) : Prop :=
  ∀ (k : Nat) (L : List Nat) (f : Nat → AC), k ∈ L → f k = .inr (ci, fs0) → AM y cc 1 none d mc ms [.ref k] L f (fun r L' f' => r = none ∧ ∃ cs fs, D cs fs ∧ CI k ci fs cs L f L' f')
section CROWS
variable {own : String} {cc : ByteArray} {nL : Nat} {rt : Option FieldType} {d mc ms : Nat} {Po : AT} {X : XT} {ce sl pc : Nat} {lv : List (Option Value)} {st : List Value}
theorem Cx.iput (C : Cx own cc nL rt true d mc ms Po X) (I : CI x ci fs cs L0 f0 L f) {idx j : Nat} {ty : FieldType} {fin : Bool} {v : Value} (G : PF own idx ci j ty fin) (dg : decode cc pc = .ok (.putfield idx, 3)) (hn : narrow ty v = v) (hfit : fits ty v = true) (hl0 : j < fs.length)
    (kk : ∀ f', CI x ci (fs.set j v) cs L0 f0 L f' → X ce sl L f' (pc + 3) lv st) : X ce sl L f pc lv (v :: .ref x :: st) := by
  cases fin with
  | false => exact C.putf G dg (I.2.2.sub I.1) I.2.1 hn hfit hl0 (kk _ I.put)
  | true => exact C.putF G dg (I.2.2.sub I.1) I.2.1 hn hfit hl0 (kk _ I.put)
theorem Cx.iarr {ini : Bool} (C : Cx own cc nL rt ini d mc ms Po X) (I : CI x ci fs cs L0 f0 L f) {atype : ArrayType} {ty : FieldType} {t N : Nat} {z : Int} (hty : newarray.typeOf atype = ty) (ht : ∀ cy : Nat → ClassId, (tyl cy)[t]? = some (cy t, ty)) (hdef : defaultValue ty = .int 0) (hcb : componentBytes ty ≤ 8) (w : Cond.arrayClass ty ∈ Om) (hz : z = N) (hN : N ≤ 100000) (dg : decode cc pc = .ok (.newarray atype, 2)) (h1 : ce + 1 ≤ mc) (h2 : sl + N ≤ ms)
    (kk : ∀ k f', CI x ci fs (cs ++ [(k, .inl (t, N, .inl (fun _ => iI 0)))]) L0 f0 (L ++ [k]) f' → X (ce + 1) (sl + N) (L ++ [k]) f' (pc + 2) lv (.ref k :: st)) : X ce sl L f pc lv (.int (iI z) :: st) :=
  C.newI hty ht hdef hcb w hz hN dg h1 h2 (fun k h2k hkL => kk k _ (I.push hkL h2k))
theorem Cx.iobj {ini : Bool} (C : Cx own cc nL rt ini d mc ms Po X) (I : FI x cs L0 f0 L f) {idx idx2 ci2 d2 mc2 ms2 : Nat} {fs0 : List Value} {y : MethodName} {cc2 : ByteArray} {D : List (Nat × AC) → List Value → Prop} (G : NF own idx ci2 fs0) (dg : decode cc pc = .ok (.new idx, 3)) (dg2 : decode cc (pc + 3) = .ok (.dup, 1)) (dg3 : decode cc (pc + 3 + 1) = .ok (.invokespecial idx2, 3)) (M : CN y cc2 ci2 fs0 d2 mc2 ms2 D) (cw : CW y cc2 1 none 0) (w1 : Cond.methodLink own idx2 y ∈ Om) (w2 : Cond.instanceMethod y ∈ Om) (hy : y.name = "<init>") (hd : d2 + 1 ≤ d) (h1 : ce + 1 + mc2 ≤ mc) (h2 : sl + fs0.length + ms2 ≤ ms) (hs : (st.map fun v => v.category).sum ≤ 7)
    (kk : ∀ k cs2 fs2 L' f', D cs2 fs2 → FI x (cs ++ (k, .inr (ci2, fs2)) :: cs2) L0 f0 L' f' → (∀ q ∈ L, f' q = f q) → X (ce + 1 + mc2) (sl + fs0.length + ms2) L' f' (pc + 3 + 1 + 3) lv (.ref k :: st)) : X ce sl L f pc lv st := by
  refine C.new G dg (by omega) (by omega) (fun k h2k hkL => ?_)
  refine C.dup dg2 rfl ?_
  refine C.callI (M k _ _ (List.mem_append_right _ (List.mem_singleton.mpr rfl)) (va_up_self _ _ _)) cw w1 w2 hy dg3 rfl hd h1 h2 ?_ rfl (fun r L' f' hR => ?_)
  · show (((Value.ref k) :: st).map fun v => v.category).sum ≤ 8
    rw [List.map_cons, List.sum_cons]
    show 1 + _ ≤ 8
    omega
  · obtain ⟨rfl, cs2, fs2, hD, J⟩ := hR
    obtain ⟨h3, h4⟩ := I.app hkL h2k J (fun q hq => va_up_ne _ _ (ne_mem hq hkL))
    exact kk k cs2 fs2 L' f' hD h3 h4
end CROWS
theorem CI.frm {f' : Nat → AC} {cs' : List (Nat × AC)} {L' : List Nat} (I : CI x ci fs cs L0 f0 L f) (J : FI x cs' L0 f0 L' f') (h : ∀ q ∈ L, f' q = f q) : CI x ci fs cs' L0 f0 L' f' := ⟨I.1, (h x (I.2.2.sub I.1)).trans I.2.1, J⟩
end CTOR
section CTORS
variable {d : Nat}
theorem n_ac {k : Nat} {L : List Nat} {f : Nat → AC} (hd : 1 ≤ d) : AM yJxa1e45_init_da8c8 cJxa1e45_init_da8c8 1 none d 0 0 [.ref k] L f (SP none L f) := by
  refine AM.of (by decide +kernel) (by simp [Value.category]) (Nat.le_of_ble_eq_true rfl) true (fun _ => rfl) (fun X C => ?_)
  refine C.aload_n dJxa1e45_init_da8c8_0 rfl ?_
  refine C.oinit dJxa1e45_init_da8c8_1 (om_wsL_law0_r4 _ (List.mem_of_getElem? (i := 5) rfl)) hd (Nat.le_of_ble_eq_true rfl) ?_
  exact C.vret rfl dJxa1e45_init_da8c8_4 (Nat.le_refl _) (Nat.le_refl _) ⟨rfl, rfl, rfl⟩
theorem n_al {k : Nat} {L : List Nat} {f : Nat → AC} (hd : 2 ≤ d) (hk : k ∈ L) (hf : f k = .inr (2, [.int 0, .null, .int 0])) : AM yJxc12de_init_da8c8 cJxc12de_init_da8c8 1 none d 0 0 [.ref k] L f (fun r L' f' => r = none ∧ CI k 2 [.int (iI 0), .null, .int 0] [] L f L' f') := by
  have M := n_ac (d := d - 1) (k := k) (L := L) (f := f) (by omega)
  refine AM.of (by decide +kernel) (by simp [Value.category]) (Nat.le_of_ble_eq_true rfl) true (fun _ => rfl) (fun X C => ?_)
  refine C.aload_n dJxc12de_init_da8c8_0 rfl ?_
  refine C.callI M cw_Jxa1e45_init_da8c8 ml_Jxc12de_1 im_Jxa1e45_init_da8c8 rfl dJxc12de_init_da8c8_1 rfl (by omega) (Nat.le_refl _) (Nat.le_refl _) (Nat.le_of_ble_eq_true rfl) rfl (fun r1 L1 f1 hR => ?_)
  obtain ⟨rfl, rfl, rfl⟩ := hR
  refine C.aload_n dJxc12de_init_da8c8_4 rfl ?_
  refine C.ic dJxc12de_init_da8c8_5 ?_
  refine C.iput (CI.start hk hf) pf_Jxc12de_7 dJxc12de_init_da8c8_6 rfl rfl (by decide) (fun f2 I => ?_)
  exact C.vret rfl dJxc12de_init_da8c8_9 (Nat.le_refl _) (Nat.le_refl _) ⟨rfl, I⟩
def dList (cs : List (Nat × AC)) (fs : List Value) : Prop := cs = [] ∧ fs = [.int (iI 0), .ref 17, .int 0]
theorem n_list (hd : 3 ≤ d) : CN yJx4a65c_init_da8c8 cJx4a65c_init_da8c8 2 [.int 0, .null, .int 0] d 0 0 dList := by
  intro k L f hk hf
  have M := n_al (d := d - 1) (by omega) hk hf
  refine AM.of (by decide +kernel) (by simp [Value.category]) (Nat.le_of_ble_eq_true rfl) true (fun _ => rfl) (fun X C => ?_)
  refine C.aload_n dJx4a65c_init_da8c8_0 rfl ?_
  refine C.callI M cw_Jxc12de_init_da8c8 ml_Jx4a65c_1 im_Jxc12de_init_da8c8 rfl dJx4a65c_init_da8c8_1 rfl (by omega) (Nat.le_refl _) (Nat.le_refl _) (Nat.le_of_ble_eq_true rfl) rfl (fun r1 L1 f1 hR => ?_)
  obtain ⟨rfl, I⟩ := hR
  refine C.aload_n dJx4a65c_init_da8c8_4 rfl ?_
  refine C.gdef dJx4a65c_init_da8c8_5 (om_wsL_law0_r3 _ (List.mem_of_getElem? (i := 18) rfl)) ?_
  refine C.iput I pf_Jx4a65c_9 dJx4a65c_init_da8c8_8 rfl rfl (by decide) (fun f2 I => ?_)
  exact C.vret rfl dJx4a65c_init_da8c8_11 (Nat.le_refl _) (Nat.le_refl _) ⟨rfl, _, _, ⟨rfl, rfl⟩, I⟩
def dTape (cs : List (Nat × AC)) (fs : List Value) : Prop := ∃ (k1 : Nat), cs = (([] : List (Nat × AC)) ++ [(k1, .inl (0, 400, .inl (fun _ => iI 0)))]) ∧ fs = [.ref k1, .int (iI 0)]
theorem n_tape (hd : 1 ≤ d) : CN yX4_init cX4_init 7 [.null, .int 0] d 1 400 dTape := by
  intro k L f hk hf
  refine AM.of (by decide +kernel) (by simp [Value.category]) (Nat.le_of_ble_eq_true rfl) true (fun _ => rfl) (fun X C => ?_)
  have I := CI.start hk hf
  refine C.aload_n dX4_init_0 rfl ?_
  refine C.oinit dX4_init_1 (om_wsL_law0_r2 _ (List.mem_of_getElem? (i := 12) rfl)) (by omega) (Nat.le_of_ble_eq_true rfl) ?_
  refine C.aload_n dX4_init_4 rfl ?_
  refine C.si dX4_init_5 (by decide) ?_
  refine C.iarr (t := 0) I rfl (fun _ => rfl) rfl (by decide) (om_wsL_law0_r2 _ (List.mem_of_getElem? (i := 13) rfl)) (N := 400) rfl (by decide) dX4_init_8 (Nat.le_of_ble_eq_true rfl) (Nat.le_of_ble_eq_true rfl) (fun k1 f1 I => ?_)
  refine C.iput I pf_X4_11 dX4_init_10 rfl rfl (Nat.le_of_ble_eq_true rfl) (fun f2 I => ?_)
  refine C.aload_n dX4_init_13 rfl ?_
  refine C.ic dX4_init_14 ?_
  refine C.iput I pf_X4_15 dX4_init_15 rfl rfl (Nat.le_of_ble_eq_true rfl) (fun f3 I => ?_)
  exact C.vret rfl dX4_init_18 (Nat.le_of_ble_eq_true rfl) (Nat.le_of_ble_eq_true rfl) ⟨rfl, _, _, ⟨k1, rfl, rfl⟩, I⟩
def dWriter (cs : List (Nat × AC)) (fs : List Value) : Prop := ∃ (k1 : Nat), cs = (([] : List (Nat × AC)) ++ [(k1, .inl (0, 400, .inl (fun _ => iI 0)))]) ∧ fs = [.ref k1, .int (iI 0), .int (iI 0)]
theorem n_writer (hd : 1 ≤ d) : CN yX7_init cX7_init 9 [.null, .int 0, .int 0] d 1 400 dWriter := by
  intro k L f hk hf
  refine AM.of (by decide +kernel) (by simp [Value.category]) (Nat.le_of_ble_eq_true rfl) true (fun _ => rfl) (fun X C => ?_)
  have I := CI.start hk hf
  refine C.aload_n dX7_init_0 rfl ?_
  refine C.oinit dX7_init_1 (om_wsL_law0_r4 _ (List.mem_of_getElem? (i := 19) rfl)) (by omega) (Nat.le_of_ble_eq_true rfl) ?_
  refine C.aload_n dX7_init_4 rfl ?_
  refine C.si dX7_init_5 (by decide) ?_
  refine C.iarr (t := 0) I rfl (fun _ => rfl) rfl (by decide) (om_wsL_law0_r2 _ (List.mem_of_getElem? (i := 13) rfl)) (N := 400) rfl (by decide) dX7_init_8 (Nat.le_of_ble_eq_true rfl) (Nat.le_of_ble_eq_true rfl) (fun k1 f1 I => ?_)
  refine C.iput I pf_X7_11 dX7_init_10 rfl rfl (Nat.le_of_ble_eq_true rfl) (fun f2 I => ?_)
  refine C.aload_n dX7_init_13 rfl ?_
  refine C.ic dX7_init_14 ?_
  refine C.iput I pf_X7_17 dX7_init_15 rfl rfl (Nat.le_of_ble_eq_true rfl) (fun f3 I => ?_)
  refine C.aload_n dX7_init_18 rfl ?_
  refine C.ic dX7_init_19 ?_
  refine C.iput I pf_X7_21 dX7_init_20 rfl rfl (Nat.le_of_ble_eq_true rfl) (fun f4 I => ?_)
  exact C.vret rfl dX7_init_23 (Nat.le_of_ble_eq_true rfl) (Nat.le_of_ble_eq_true rfl) ⟨rfl, _, _, ⟨k1, rfl, rfl⟩, I⟩
def dThings (cs : List (Nat × AC)) (fs : List Value) : Prop := ∃ (k1 : Nat) (k3 : Nat) (k5 : Nat), cs = (((([] : List (Nat × AC)) ++ [(k1, .inl (1, 400, .inl (fun _ => iI 0)))]) ++ [(k3, .inl (1, 400, .inl (fun _ => iI 0)))]) ++ [(k5, .inl (1, 400, .inl (fun _ => iI 0)))]) ∧ fs = [.ref k1, .ref k3, .ref k5, .int (iI 0), .int (iI 0), .int (iI 0)]
theorem n_things (hd : 1 ≤ d) : CN yX6_init cX6_init 8 [.null, .null, .null, .int 0, .int 0, .int 0] d 3 1200 dThings := by
  intro k L f hk hf
  refine AM.of (by decide +kernel) (by simp [Value.category]) (Nat.le_of_ble_eq_true rfl) true (fun _ => rfl) (fun X C => ?_)
  have I := CI.start hk hf
  refine C.aload_n dX6_init_0 rfl ?_
  refine C.oinit dX6_init_1 (om_wsL_law0_r4 _ (List.mem_of_getElem? (i := 9) rfl)) (by omega) (Nat.le_of_ble_eq_true rfl) ?_
  refine C.aload_n dX6_init_4 rfl ?_
  refine C.si dX6_init_5 (by decide) ?_
  refine C.iarr (t := 1) I rfl (fun _ => rfl) rfl (by decide) (om_wsL_law0_r3 _ (List.mem_of_getElem? (i := 2) rfl)) (N := 400) rfl (by decide) dX6_init_8 (Nat.le_of_ble_eq_true rfl) (Nat.le_of_ble_eq_true rfl) (fun k1 f1 I => ?_)
  refine C.iput I pf_X6_11 dX6_init_10 rfl rfl (Nat.le_of_ble_eq_true rfl) (fun f2 I => ?_)
  refine C.aload_n dX6_init_13 rfl ?_
  refine C.si dX6_init_14 (by decide) ?_
  refine C.iarr (t := 1) I rfl (fun _ => rfl) rfl (by decide) (om_wsL_law0_r3 _ (List.mem_of_getElem? (i := 2) rfl)) (N := 400) rfl (by decide) dX6_init_17 (Nat.le_of_ble_eq_true rfl) (Nat.le_of_ble_eq_true rfl) (fun k3 f3 I => ?_)
  refine C.iput I pf_X6_17 dX6_init_19 rfl rfl (Nat.le_of_ble_eq_true rfl) (fun f4 I => ?_)
  refine C.aload_n dX6_init_22 rfl ?_
  refine C.si dX6_init_23 (by decide) ?_
  refine C.iarr (t := 1) I rfl (fun _ => rfl) rfl (by decide) (om_wsL_law0_r3 _ (List.mem_of_getElem? (i := 2) rfl)) (N := 400) rfl (by decide) dX6_init_26 (Nat.le_of_ble_eq_true rfl) (Nat.le_of_ble_eq_true rfl) (fun k5 f5 I => ?_)
  refine C.iput I pf_X6_20 dX6_init_28 rfl rfl (Nat.le_of_ble_eq_true rfl) (fun f6 I => ?_)
  refine C.aload_n dX6_init_31 rfl ?_
  refine C.ic dX6_init_32 ?_
  refine C.iput I pf_X6_23 dX6_init_33 rfl rfl (Nat.le_of_ble_eq_true rfl) (fun f7 I => ?_)
  refine C.aload_n dX6_init_36 rfl ?_
  refine C.ic dX6_init_37 ?_
  refine C.iput I pf_X6_27 dX6_init_38 rfl rfl (Nat.le_of_ble_eq_true rfl) (fun f8 I => ?_)
  refine C.aload_n dX6_init_41 rfl ?_
  refine C.ic dX6_init_42 ?_
  refine C.iput I pf_X6_30 dX6_init_43 rfl rfl (Nat.le_of_ble_eq_true rfl) (fun f9 I => ?_)
  exact C.vret rfl dX6_init_46 (Nat.le_of_ble_eq_true rfl) (Nat.le_of_ble_eq_true rfl) ⟨rfl, _, _, ⟨k1, k3, k5, rfl, rfl⟩, I⟩
def dLetter (cs : List (Nat × AC)) (fs : List Value) : Prop := ∃ (k1 : Nat) (c1 : List (Nat × AC)) (s1 : List Value), dList c1 s1 ∧ cs = (([] : List (Nat × AC)) ++ (k1, .inr (2, s1)) :: c1) ∧ fs = [.ref k1]
theorem n_letter (hd : 4 ≤ d) : CN yX1_init cX1_init 4 [.null] d 1 3 dLetter := by
  intro k L f hk hf
  refine AM.of (by decide +kernel) (by simp [Value.category]) (Nat.le_of_ble_eq_true rfl) true (fun _ => rfl) (fun X C => ?_)
  have I := CI.start hk hf
  refine C.aload_n dX1_init_0 rfl ?_
  refine C.oinit dX1_init_1 (om_wsL_law0_r3 _ (List.mem_of_getElem? (i := 10) rfl)) (by omega) (Nat.le_of_ble_eq_true rfl) ?_
  refine C.aload_n dX1_init_4 rfl ?_
  refine C.iobj I.2.2 nf_X1_9 dX1_init_5 dX1_init_8 dX1_init_9 (n_list (d := d - 1) (by omega)) cw_Jx4a65c_init_da8c8 ml_X1_11 im_Jx4a65c_init_da8c8 rfl (by omega) (Nat.le_of_ble_eq_true rfl) (Nat.le_of_ble_eq_true rfl) (Nat.le_of_ble_eq_true rfl) (fun k1 c1 s1 L1 f1 hD1 J hf => ?_)
  replace I := I.frm J hf; clear J hf
  refine C.iput I pf_X1_12 dX1_init_12 rfl rfl (Nat.le_of_ble_eq_true rfl) (fun f2 I => ?_)
  exact C.vret rfl dX1_init_15 (Nat.le_of_ble_eq_true rfl) (Nat.le_of_ble_eq_true rfl) ⟨rfl, _, _, ⟨k1, c1, s1, hD1, rfl, rfl⟩, I⟩
def dReader (cs : List (Nat × AC)) (fs : List Value) : Prop := ∃ (k1 : Nat) (c1 : List (Nat × AC)) (s1 : List Value) (k3 : Nat) (c3 : List (Nat × AC)) (s3 : List Value) (k5 : Nat), dLetter c1 s1 ∧ dThings c3 s3 ∧ cs = (((([] : List (Nat × AC)) ++ (k1, .inr (4, s1)) :: c1) ++ (k3, .inr (8, s3)) :: c3) ++ [(k5, .inl (1, 3, .inl (fun _ => iI 0)))]) ∧ fs = [.ref k1, .ref k3, .int (iI 3), .int (iI 0), .ref k5, .int (iI 0)]
theorem n_reader (hd : 5 ≤ d) : CN yX2_init cX2_init 5 [.null, .null, .int 0, .int 0, .null, .int 0] d 7 1213 dReader := by
  intro k L f hk hf
  refine AM.of (by decide +kernel) (by simp [Value.category]) (Nat.le_of_ble_eq_true rfl) true (fun _ => rfl) (fun X C => ?_)
  have I := CI.start hk hf
  refine C.aload_n dX2_init_0 rfl ?_
  refine C.oinit dX2_init_1 (om_wsL_law0_r2 _ (List.mem_of_getElem? (i := 19) rfl)) (by omega) (Nat.le_of_ble_eq_true rfl) ?_
  refine C.aload_n dX2_init_4 rfl ?_
  refine C.iobj I.2.2 nf_X2_9 dX2_init_5 dX2_init_8 dX2_init_9 (n_letter (d := d - 1) (by omega)) cw_X1_init ml_X2_11 im_X1_init rfl (by omega) (Nat.le_of_ble_eq_true rfl) (Nat.le_of_ble_eq_true rfl) (Nat.le_of_ble_eq_true rfl) (fun k1 c1 s1 L1 f1 hD1 J hf => ?_)
  replace I := I.frm J hf; clear J hf
  refine C.iput I pf_X2_12 dX2_init_12 rfl rfl (Nat.le_of_ble_eq_true rfl) (fun f2 I => ?_)
  refine C.aload_n dX2_init_15 rfl ?_
  refine C.iobj I.2.2 nf_X2_18 dX2_init_16 dX2_init_19 dX2_init_20 (n_things (d := d - 1) (by omega)) cw_X6_init ml_X2_20 im_X6_init rfl (by omega) (Nat.le_of_ble_eq_true rfl) (Nat.le_of_ble_eq_true rfl) (Nat.le_of_ble_eq_true rfl) (fun k3 c3 s3 L3 f3 hD3 J hf => ?_)
  replace I := I.frm J hf; clear J hf
  refine C.iput I pf_X2_21 dX2_init_23 rfl rfl (Nat.le_of_ble_eq_true rfl) (fun f4 I => ?_)
  refine C.aload_n dX2_init_26 rfl ?_
  refine C.ic dX2_init_27 ?_
  refine C.iarr (t := 1) I rfl (fun _ => rfl) rfl (by decide) (om_wsL_law0_r3 _ (List.mem_of_getElem? (i := 2) rfl)) (N := 3) rfl (by decide) dX2_init_28 (Nat.le_of_ble_eq_true rfl) (Nat.le_of_ble_eq_true rfl) (fun k5 f5 I => ?_)
  refine C.iput I pf_X2_27 dX2_init_30 rfl rfl (Nat.le_of_ble_eq_true rfl) (fun f6 I => ?_)
  refine C.aload_n dX2_init_33 rfl ?_
  refine C.ic dX2_init_34 ?_
  refine C.iput I pf_X2_31 dX2_init_35 rfl rfl (Nat.le_of_ble_eq_true rfl) (fun f7 I => ?_)
  refine C.aload_n dX2_init_38 rfl ?_
  refine C.ic dX2_init_39 ?_
  refine C.iput I pf_X2_35 dX2_init_40 rfl rfl (Nat.le_of_ble_eq_true rfl) (fun f8 I => ?_)
  refine C.aload_n dX2_init_43 rfl ?_
  refine C.ic dX2_init_44 ?_
  refine C.iput I pf_X2_38 dX2_init_45 rfl rfl (Nat.le_of_ble_eq_true rfl) (fun f9 I => ?_)
  exact C.vret rfl dX2_init_48 (Nat.le_of_ble_eq_true rfl) (Nat.le_of_ble_eq_true rfl) ⟨rfl, _, _, ⟨k1, c1, s1, k3, c3, s3, k5, hD1, hD3, rfl, rfl⟩, I⟩
def dPlain (cs : List (Nat × AC)) (fs : List Value) : Prop := ∃ (k1 : Nat) (c1 : List (Nat × AC)) (s1 : List Value) (k3 : Nat) (c3 : List (Nat × AC)) (s3 : List Value) (k5 : Nat) (c5 : List (Nat × AC)) (s5 : List Value) (k7 : Nat) (c7 : List (Nat × AC)) (s7 : List Value) (k9 : Nat) (c9 : List (Nat × AC)) (s9 : List Value), dTape c1 s1 ∧ dReader c3 s3 ∧ dWriter c5 s5 ∧ dLetter c7 s7 ∧ dLetter c9 s9 ∧ cs = (((((([] : List (Nat × AC)) ++ (k1, .inr (7, s1)) :: c1) ++ (k3, .inr (5, s3)) :: c3) ++ (k5, .inr (9, s5)) :: c5) ++ (k7, .inr (4, s7)) :: c7) ++ (k9, .inr (4, s9)) :: c9) ∧ fs = [.ref k1, .ref k3, .ref k5, .ref k7, .ref k9, .int (iI (-1)), .int (iI 0), .int (iI 0)]
theorem n_plain (hd : 6 ≤ d) : CN yX8_init cX8_init 10 [.null, .null, .null, .null, .null, .int 0, .int 0, .int 0] d 16 2032 dPlain := by
  intro k L f hk hf
  refine AM.of (by decide +kernel) (by simp [Value.category]) (Nat.le_of_ble_eq_true rfl) true (fun _ => rfl) (fun X C => ?_)
  have I := CI.start hk hf
  refine C.aload_n dX8_init_0 rfl ?_
  refine C.oinit dX8_init_1 (om_wsL_law0_r1 _ (List.mem_of_getElem? (i := 10) rfl)) (by omega) (Nat.le_of_ble_eq_true rfl) ?_
  refine C.aload_n dX8_init_4 rfl ?_
  refine C.iobj I.2.2 nf_X8_7 dX8_init_5 dX8_init_8 dX8_init_9 (n_tape (d := d - 1) (by omega)) cw_X4_init ml_X8_9 im_X4_init rfl (by omega) (Nat.le_of_ble_eq_true rfl) (Nat.le_of_ble_eq_true rfl) (Nat.le_of_ble_eq_true rfl) (fun k1 c1 s1 L1 f1 hD1 J hf => ?_)
  replace I := I.frm J hf; clear J hf
  refine C.iput I pf_X8_10 dX8_init_12 rfl rfl (Nat.le_of_ble_eq_true rfl) (fun f2 I => ?_)
  refine C.aload_n dX8_init_15 rfl ?_
  refine C.iobj I.2.2 nf_X8_16 dX8_init_16 dX8_init_19 dX8_init_20 (n_reader (d := d - 1) (by omega)) cw_X2_init ml_X8_18 im_X2_init rfl (by omega) (Nat.le_of_ble_eq_true rfl) (Nat.le_of_ble_eq_true rfl) (Nat.le_of_ble_eq_true rfl) (fun k3 c3 s3 L3 f3 hD3 J hf => ?_)
  replace I := I.frm J hf; clear J hf
  refine C.iput I pf_X8_19 dX8_init_23 rfl rfl (Nat.le_of_ble_eq_true rfl) (fun f4 I => ?_)
  refine C.aload_n dX8_init_26 rfl ?_
  refine C.iobj I.2.2 nf_X8_23 dX8_init_27 dX8_init_30 dX8_init_31 (n_writer (d := d - 1) (by omega)) cw_X7_init ml_X8_25 im_X7_init rfl (by omega) (Nat.le_of_ble_eq_true rfl) (Nat.le_of_ble_eq_true rfl) (Nat.le_of_ble_eq_true rfl) (fun k5 c5 s5 L5 f5 hD5 J hf => ?_)
  replace I := I.frm J hf; clear J hf
  refine C.iput I pf_X8_26 dX8_init_34 rfl rfl (Nat.le_of_ble_eq_true rfl) (fun f6 I => ?_)
  refine C.aload_n dX8_init_37 rfl ?_
  refine C.iobj I.2.2 nf_X8_30 dX8_init_38 dX8_init_41 dX8_init_42 (n_letter (d := d - 1) (by omega)) cw_X1_init ml_X8_32 im_X1_init rfl (by omega) (Nat.le_of_ble_eq_true rfl) (Nat.le_of_ble_eq_true rfl) (Nat.le_of_ble_eq_true rfl) (fun k7 c7 s7 L7 f7 hD7 J hf => ?_)
  replace I := I.frm J hf; clear J hf
  refine C.iput I pf_X8_33 dX8_init_45 rfl rfl (Nat.le_of_ble_eq_true rfl) (fun f8 I => ?_)
  refine C.aload_n dX8_init_48 rfl ?_
  refine C.iobj I.2.2 nf_X8_30 dX8_init_49 dX8_init_52 dX8_init_53 (n_letter (d := d - 1) (by omega)) cw_X1_init ml_X8_32 im_X1_init rfl (by omega) (Nat.le_of_ble_eq_true rfl) (Nat.le_of_ble_eq_true rfl) (Nat.le_of_ble_eq_true rfl) (fun k9 c9 s9 L9 f9 hD9 J hf => ?_)
  replace I := I.frm J hf; clear J hf
  refine C.iput I pf_X8_37 dX8_init_56 rfl rfl (Nat.le_of_ble_eq_true rfl) (fun f10 I => ?_)
  refine C.aload_n dX8_init_59 rfl ?_
  refine C.ic dX8_init_60 ?_
  refine C.iput I pf_X8_40 dX8_init_61 rfl rfl (Nat.le_of_ble_eq_true rfl) (fun f11 I => ?_)
  refine C.aload_n dX8_init_64 rfl ?_
  refine C.ic dX8_init_65 ?_
  refine C.iput I pf_X8_44 dX8_init_66 rfl rfl (Nat.le_of_ble_eq_true rfl) (fun f12 I => ?_)
  refine C.aload_n dX8_init_69 rfl ?_
  refine C.ic dX8_init_70 ?_
  refine C.iput I pf_X8_47 dX8_init_71 rfl rfl (Nat.le_of_ble_eq_true rfl) (fun f13 I => ?_)
  exact C.vret rfl dX8_init_74 (Nat.le_of_ble_eq_true rfl) (Nat.le_of_ble_eq_true rfl) ⟨rfl, _, _, ⟨k1, c1, s1, k3, c3, s3, k5, c5, s5, k7, c7, s7, k9, c9, s9, hD1, hD3, hD5, hD7, hD9, rfl, rfl⟩, I⟩
def dModel (cs : List (Nat × AC)) (fs : List Value) : Prop := ∃ (k1 : Nat) (k3 : Nat) (k5 : Nat) (k7 : Nat) (k9 : Nat) (k11 : Nat) (k13 : Nat) (k15 : Nat) (k17 : Nat) (k19 : Nat) (k21 : Nat) (k23 : Nat) (k26 : Nat) (k28 : Nat), cs = ((((((((((((((([] : List (Nat × AC)) ++ [(k1, .inl (1, 100, .inl (fun _ => iI 0)))]) ++ [(k3, .inl (1, 300, .inl (fun _ => iI 0)))]) ++ [(k5, .inl (1, 100, .inl (fun _ => iI 0)))]) ++ [(k7, .inl (1, 100, .inl (fun _ => iI 0)))]) ++ [(k9, .inl (1, 100, .inl (fun _ => iI 0)))]) ++ [(k11, .inl (2, 100, .inl (fun _ => iI 0)))]) ++ [(k13, .inl (1, 200, .inl (fun _ => iI 0)))]) ++ [(k15, .inl (1, 84000, .inl (fun _ => iI 0)))]) ++ [(k17, .inl (1, 1400, .inl (fun _ => iI 0)))]) ++ [(k19, .inl (1, 1400, .inl (fun _ => iI 0)))]) ++ [(k21, .inl (1, 1400, .inl (fun _ => iI 0)))]) ++ [(k23, .inl (0, 400, .inl (fun _ => iI 0)))]) ++ [(k26, .inl (1, 5, .inl (fun _ => iI 0)))]) ++ [(k28, .inl (0, 9000, .inl (fun _ => iI 0)))]) ∧ fs = [.int 0, .ref k1, .ref k3, .ref k5, .ref k7, .ref k9, .ref k11, .ref k13, .ref k15, .int 0, .int 0, .int 0, .int 0, .int 0, .ref k17, .ref k19, .ref k21, .int 0, .int 0, .int 0, .ref k23, .int 0, .int 0, .int 0, .int 0, .int (iI (-1)), .int 0, .ref k26, .ref k28, .int 0, .int 0, .int 0, .int 0]
theorem n_model (hd : 1 ≤ d) : CN yX9_init cX9_init 11 [.int 0, .null, .null, .null, .null, .null, .null, .null, .null, .int 0, .int 0, .int 0, .int 0, .int 0, .null, .null, .null, .int 0, .int 0, .int 0, .null, .int 0, .int 0, .int 0, .int 0, .int 0, .int 0, .null, .null, .int 0, .int 0, .int 0, .int 0] d 14 98605 dModel := by
  intro k L f hk hf
  refine AM.of (by decide +kernel) (by simp [Value.category]) (Nat.le_of_ble_eq_true rfl) true (fun _ => rfl) (fun X C => ?_)
  have I := CI.start hk hf
  refine C.aload_n dX9_init_0 rfl ?_
  refine C.oinit dX9_init_1 (om_wsL_law0_r5 _ (List.mem_of_getElem? (i := 3) rfl)) (by omega) (Nat.le_of_ble_eq_true rfl) ?_
  refine C.aload_n dX9_init_4 rfl ?_
  refine C.bi dX9_init_5 (by decide) ?_
  refine C.iarr (t := 1) I rfl (fun _ => rfl) rfl (by decide) (om_wsL_law0_r3 _ (List.mem_of_getElem? (i := 2) rfl)) (N := 100) rfl (by decide) dX9_init_7 (Nat.le_of_ble_eq_true rfl) (Nat.le_of_ble_eq_true rfl) (fun k1 f1 I => ?_)
  refine C.iput I pf_X9_9 dX9_init_9 rfl rfl (Nat.le_of_ble_eq_true rfl) (fun f2 I => ?_)
  refine C.aload_n dX9_init_12 rfl ?_
  refine C.si dX9_init_13 (by decide) ?_
  refine C.iarr (t := 1) I rfl (fun _ => rfl) rfl (by decide) (om_wsL_law0_r3 _ (List.mem_of_getElem? (i := 2) rfl)) (N := 300) rfl (by decide) dX9_init_16 (Nat.le_of_ble_eq_true rfl) (Nat.le_of_ble_eq_true rfl) (fun k3 f3 I => ?_)
  refine C.iput I pf_X9_13 dX9_init_18 rfl rfl (Nat.le_of_ble_eq_true rfl) (fun f4 I => ?_)
  refine C.aload_n dX9_init_21 rfl ?_
  refine C.bi dX9_init_22 (by decide) ?_
  refine C.iarr (t := 1) I rfl (fun _ => rfl) rfl (by decide) (om_wsL_law0_r3 _ (List.mem_of_getElem? (i := 2) rfl)) (N := 100) rfl (by decide) dX9_init_24 (Nat.le_of_ble_eq_true rfl) (Nat.le_of_ble_eq_true rfl) (fun k5 f5 I => ?_)
  refine C.iput I pf_X9_16 dX9_init_26 rfl rfl (Nat.le_of_ble_eq_true rfl) (fun f6 I => ?_)
  refine C.aload_n dX9_init_29 rfl ?_
  refine C.bi dX9_init_30 (by decide) ?_
  refine C.iarr (t := 1) I rfl (fun _ => rfl) rfl (by decide) (om_wsL_law0_r3 _ (List.mem_of_getElem? (i := 2) rfl)) (N := 100) rfl (by decide) dX9_init_32 (Nat.le_of_ble_eq_true rfl) (Nat.le_of_ble_eq_true rfl) (fun k7 f7 I => ?_)
  refine C.iput I pf_X9_19 dX9_init_34 rfl rfl (Nat.le_of_ble_eq_true rfl) (fun f8 I => ?_)
  refine C.aload_n dX9_init_37 rfl ?_
  refine C.bi dX9_init_38 (by decide) ?_
  refine C.iarr (t := 1) I rfl (fun _ => rfl) rfl (by decide) (om_wsL_law0_r3 _ (List.mem_of_getElem? (i := 2) rfl)) (N := 100) rfl (by decide) dX9_init_40 (Nat.le_of_ble_eq_true rfl) (Nat.le_of_ble_eq_true rfl) (fun k9 f9 I => ?_)
  refine C.iput I pf_X9_22 dX9_init_42 rfl rfl (Nat.le_of_ble_eq_true rfl) (fun f10 I => ?_)
  refine C.aload_n dX9_init_45 rfl ?_
  refine C.bi dX9_init_46 (by decide) ?_
  refine C.iarr (t := 2) I rfl (fun _ => rfl) rfl (by decide) (om_wsL_law0_r5 _ (List.mem_of_getElem? (i := 9) rfl)) (N := 100) rfl (by decide) dX9_init_48 (Nat.le_of_ble_eq_true rfl) (Nat.le_of_ble_eq_true rfl) (fun k11 f11 I => ?_)
  refine C.iput I pf_X9_25 dX9_init_50 rfl rfl (Nat.le_of_ble_eq_true rfl) (fun f12 I => ?_)
  refine C.aload_n dX9_init_53 rfl ?_
  refine C.si dX9_init_54 (by decide) ?_
  refine C.iarr (t := 1) I rfl (fun _ => rfl) rfl (by decide) (om_wsL_law0_r3 _ (List.mem_of_getElem? (i := 2) rfl)) (N := 200) rfl (by decide) dX9_init_57 (Nat.le_of_ble_eq_true rfl) (Nat.le_of_ble_eq_true rfl) (fun k13 f13 I => ?_)
  refine C.iput I pf_X9_29 dX9_init_59 rfl rfl (Nat.le_of_ble_eq_true rfl) (fun f14 I => ?_)
  refine C.aload_n dX9_init_62 rfl ?_
  refine C.ldz (n := 84000) dX9_init_63 kc_X9_32 (by decide) ?_
  refine C.iarr (t := 1) I rfl (fun _ => rfl) rfl (by decide) (om_wsL_law0_r3 _ (List.mem_of_getElem? (i := 2) rfl)) (N := 84000) rfl (by decide) dX9_init_65 (Nat.le_of_ble_eq_true rfl) (Nat.le_of_ble_eq_true rfl) (fun k15 f15 I => ?_)
  refine C.iput I pf_X9_33 dX9_init_67 rfl rfl (Nat.le_of_ble_eq_true rfl) (fun f16 I => ?_)
  refine C.aload_n dX9_init_70 rfl ?_
  refine C.si dX9_init_71 (by decide) ?_
  refine C.iarr (t := 1) I rfl (fun _ => rfl) rfl (by decide) (om_wsL_law0_r3 _ (List.mem_of_getElem? (i := 2) rfl)) (N := 1400) rfl (by decide) dX9_init_74 (Nat.le_of_ble_eq_true rfl) (Nat.le_of_ble_eq_true rfl) (fun k17 f17 I => ?_)
  refine C.iput I pf_X9_36 dX9_init_76 rfl rfl (Nat.le_of_ble_eq_true rfl) (fun f18 I => ?_)
  refine C.aload_n dX9_init_79 rfl ?_
  refine C.si dX9_init_80 (by decide) ?_
  refine C.iarr (t := 1) I rfl (fun _ => rfl) rfl (by decide) (om_wsL_law0_r3 _ (List.mem_of_getElem? (i := 2) rfl)) (N := 1400) rfl (by decide) dX9_init_83 (Nat.le_of_ble_eq_true rfl) (Nat.le_of_ble_eq_true rfl) (fun k19 f19 I => ?_)
  refine C.iput I pf_X9_39 dX9_init_85 rfl rfl (Nat.le_of_ble_eq_true rfl) (fun f20 I => ?_)
  refine C.aload_n dX9_init_88 rfl ?_
  refine C.si dX9_init_89 (by decide) ?_
  refine C.iarr (t := 1) I rfl (fun _ => rfl) rfl (by decide) (om_wsL_law0_r3 _ (List.mem_of_getElem? (i := 2) rfl)) (N := 1400) rfl (by decide) dX9_init_92 (Nat.le_of_ble_eq_true rfl) (Nat.le_of_ble_eq_true rfl) (fun k21 f21 I => ?_)
  refine C.iput I pf_X9_42 dX9_init_94 rfl rfl (Nat.le_of_ble_eq_true rfl) (fun f22 I => ?_)
  refine C.aload_n dX9_init_97 rfl ?_
  refine C.si dX9_init_98 (by decide) ?_
  refine C.iarr (t := 0) I rfl (fun _ => rfl) rfl (by decide) (om_wsL_law0_r2 _ (List.mem_of_getElem? (i := 13) rfl)) (N := 400) rfl (by decide) dX9_init_101 (Nat.le_of_ble_eq_true rfl) (Nat.le_of_ble_eq_true rfl) (fun k23 f23 I => ?_)
  refine C.iput I pf_X9_45 dX9_init_103 rfl rfl (Nat.le_of_ble_eq_true rfl) (fun f24 I => ?_)
  refine C.aload_n dX9_init_106 rfl ?_
  refine C.ic dX9_init_107 ?_
  refine C.iput I pf_X9_49 dX9_init_108 rfl rfl (Nat.le_of_ble_eq_true rfl) (fun f25 I => ?_)
  refine C.aload_n dX9_init_111 rfl ?_
  refine C.ic dX9_init_112 ?_
  refine C.iarr (t := 1) I rfl (fun _ => rfl) rfl (by decide) (om_wsL_law0_r3 _ (List.mem_of_getElem? (i := 2) rfl)) (N := 5) rfl (by decide) dX9_init_113 (Nat.le_of_ble_eq_true rfl) (Nat.le_of_ble_eq_true rfl) (fun k26 f26 I => ?_)
  refine C.iput I pf_X9_53 dX9_init_115 rfl rfl (Nat.le_of_ble_eq_true rfl) (fun f27 I => ?_)
  refine C.aload_n dX9_init_118 rfl ?_
  refine C.si dX9_init_119 (by decide) ?_
  refine C.iarr (t := 0) I rfl (fun _ => rfl) rfl (by decide) (om_wsL_law0_r2 _ (List.mem_of_getElem? (i := 13) rfl)) (N := 9000) rfl (by decide) dX9_init_122 (Nat.le_of_ble_eq_true rfl) (Nat.le_of_ble_eq_true rfl) (fun k28 f28 I => ?_)
  refine C.iput I pf_X9_56 dX9_init_124 rfl rfl (Nat.le_of_ble_eq_true rfl) (fun f29 I => ?_)
  exact C.vret rfl dX9_init_127 (Nat.le_of_ble_eq_true rfl) (Nat.le_of_ble_eq_true rfl) ⟨rfl, _, _, ⟨k1, k3, k5, k7, k9, k11, k13, k15, k17, k19, k21, k23, k26, k28, rfl, rfl⟩, I⟩
end CTORS
