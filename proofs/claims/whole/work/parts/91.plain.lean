/-! the plainest way, by the class -/
theorem prS_congr {y z : Sen} {n : Int} (h1 : y.1.2 = z.1.2) (h2 : y.2 = z.2) : prS y n = prS z n := by
  unfold prS wdS
  rw [h1, h2]
/-- a sentence eased, then turned -/
def wyO (t e : Bool) (x : Sen) : Sen := wyT t (wyE e x)
theorem wyO_eq (t e : Bool) (x : Sen) : wyO t e x = wyE e (wyT t x) := by
  cases t <;> cases e <;> rfl
theorem wyO_acts (t e : Bool) (x : Sen) : (wyO t e x).1.1 = x.1.1 := by cases t <;> cases e <;> rfl
theorem wyO_wAct (t e : Bool) (x : Sen) (v : Int) : wyE e (wyT t (wAct x v)) = wAct (wyO t e x) v := by
  cases t <;> cases e <;> rfl
theorem wyO_ok {t e : Bool} {x : Sen} (hx : SOk x) (ht : (!t || canT x) = true) : SOk (wyO t e x) := by
  unfold wyO wyT
  cases t with
  | false => cases e <;> exact hx
  | true =>
    have hc : canT (wyE e x) = canT x := by cases e <;> rfl
    have hs : SOk (wyE e x) := by cases e <;> exact hx
    exact hs.trn (by rw [hc]; simpa using ht)
theorem wyL_B (p t e : Bool) (x : Sen) : wyL p t e x = wyB p (wyO t e x) := by
  unfold wyL wyB
  cases p with
  | false =>
    show [wyE e (wyT t x)] = [wyO t e x]
    rw [wyO_eq]
  | true =>
    show (x.1.1.map (wAct x)).map (fun c => wyE e (wyT t c)) = (wyO t e x).1.1.map (wAct (wyO t e x))
    rw [List.map_map, wyO_acts]
    apply List.map_congr_left
    intro v _
    exact wyO_wAct t e x v
theorem sum_const (c : Nat) : ∀ (xs : List Int), (xs.map (fun _ => c)).sum = xs.length * c
  | [] => by simp
  | x :: xs => by
    rw [List.map_cons, List.sum_cons, sum_const c xs, List.length_cons, Nat.add_mul]
    omega
/-- what the class reckons for a way -/
theorem pc_eq {p t e : Bool} {x : Sen} (hx : SOk x) (ht : (!t || canT x) = true) : ((csL (wyL p t e x) : Nat) : Int) = if p then (x.1.1.length : Int) * prS (wyO t e x) 1 else prS (wyO t e x) x.1.1.length := by
  have ho := wyO_ok (e := e) hx ht
  rw [wyL_B]
  unfold wyB csL
  cases p with
  | false =>
    rw [if_neg (by decide), if_neg (by decide), ← wyO_acts t e x, prS_csS ho]
    simp
  | true =>
    rw [if_pos rfl, if_pos rfl, List.map_map]
    have h1 : ∀ v ∈ (wyO t e x).1.1, ((csS ∘ wAct (wyO t e x)) v : Nat) = (prS (wyO t e x) 1).toNat := fun v hv => by
      have h2 := prS_csS (ho.wAct hv)
      have h3 : prS (wAct (wyO t e x) v) ((wAct (wyO t e x) v).1.1.length : Nat) = prS (wyO t e x) 1 := prS_congr rfl rfl
      rw [h3] at h2
      show csS (wAct (wyO t e x) v) = _
      omega
    rw [List.map_congr_left h1, sum_const, wyO_acts]
    have h0 : 0 ≤ prS (wyO t e x) 1 := by
      obtain ⟨v, hv⟩ : ∃ v, v ∈ (wyO t e x).1.1 := by
        have := ho.1.1.2.1
        cases hh : (wyO t e x).1.1 with
        | nil => rw [hh] at this; simp at this
        | cons a as => exact ⟨a, List.mem_cons_self⟩
      have h2 := prS_csS (ho.wAct hv)
      have h3 : prS (wAct (wyO t e x) v) ((wAct (wyO t e x) v).1.1.length : Nat) = prS (wyO t e x) 1 := prS_congr rfl rfl
      rw [h3] at h2
      omega
    rw [Int.natCast_mul, Int.toNat_of_nonneg h0]
theorem kkB_inj : ∀ p t e p' t' e' : Bool, kkB p t e = kkB p' t' e' → p = p' ∧ t = t' ∧ e = e' := by decide
theorem kkB_rng : ∀ p t e : Bool, 0 ≤ kkB p t e ∧ kkB p t e < 16 := by decide
/-- the best way is one alone -/
theorem best_one {p t e : Bool} {x : Sen} (hok : wyOk p t e x = true) (hmin : ∀ p' t' e', wyOk p' t' e' x = true → 16 * wyV p t e x + kkB p t e ≤ 16 * wyV p' t' e' x + kkB p' t' e') : wyL p t e x = plL x := by
  obtain ⟨h1, -, h3, h4⟩ := bsW_spec x
  have hk : ∃ i, i < 8 ∧ wp i = p ∧ wq i = t ∧ we i = e := by
    cases p <;> cases t <;> cases e
    · exact ⟨0, by decide, rfl, rfl, rfl⟩
    · exact ⟨4, by decide, rfl, rfl, rfl⟩
    · exact ⟨2, by decide, rfl, rfl, rfl⟩
    · exact ⟨6, by decide, rfl, rfl, rfl⟩
    · exact ⟨1, by decide, rfl, rfl, rfl⟩
    · exact ⟨5, by decide, rfl, rfl, rfl⟩
    · exact ⟨3, by decide, rfl, rfl, rfl⟩
    · exact ⟨7, by decide, rfl, rfl, rfl⟩
  obtain ⟨i, hi, rfl, rfl, rfl⟩ := hk
  have a1 := h4 i hi hok
  have a2 := hmin _ _ _ h3
  have r1 := kkB_rng (wp i) (wq i) (we i)
  have r2 := kkB_rng (wp (bsW x)) (wq (bsW x)) (we (bsW x))
  unfold vK kK at a1
  obtain ⟨e1, e2, e3⟩ := kkB_inj _ _ _ _ _ _ (show kkB (wp i) (wq i) (we i) = kkB (wp (bsW x)) (wq (bsW x)) (we (bsW x)) by omega)
  unfold plL
  rw [e1, e2, e3]
def wcP (w : Nat) : Bool := decide (w / 4 % 2 = 1)
def wcT (w : Nat) : Bool := decide (w / 2 % 2 = 1)
def wcE (w : Nat) : Bool := decide (w % 2 = 1)
theorem w8 {P : Nat → Prop} (h0 : P 0) (h1 : P 1) (h2 : P 2) (h3 : P 3) (h4 : P 4) (h5 : P 5) (h6 : P 6) (h7 : P 7) : ∀ w, w < 8 → P w := fun w hw => by
  rcases (show w = 0 ∨ w = 1 ∨ w = 2 ∨ w = 3 ∨ w = 4 ∨ w = 5 ∨ w = 6 ∨ w = 7 by omega) with rfl | rfl | rfl | rfl | rfl | rfl | rfl | rfl <;> assumption
theorem wc4 : ∀ w : Nat, w < 8 → iI (w : Int) &&& iI 4 = iI (4 * b2i (wcP w)) := w8 rfl rfl rfl rfl rfl rfl rfl rfl
theorem wc2 : ∀ w : Nat, w < 8 → iI (w : Int) &&& iI 2 = iI (2 * b2i (wcT w)) := w8 rfl rfl rfl rfl rfl rfl rfl rfl
theorem wc1 : ∀ w : Nat, w < 8 → iI (w : Int) &&& iI 1 = iI (b2i (wcE w)) := w8 rfl rfl rfl rfl rfl rfl rfl rfl
abbrev wcV (w : Nat) (x : Sen) : Int := wyV (wcP w) (wcT w) (wcE w) x
abbrev wcK (w : Nat) : Int := kkB (wcP w) (wcT w) (wcE w)
abbrev wcO (w : Nat) (x : Sen) : Bool := wyOk (wcP w) (wcT w) (wcE w) x
theorem wcK_bc : ∀ w b : Nat, w < 8 → b < w → (bcI (w : Int) < bcI (b : Int) ↔ wcK w < wcK b) := by
  have key : ∀ w b : Fin 8, b < w → (bcI (w.val : Int) < bcI (b.val : Int) ↔ wcK w.val < wcK b.val) := by decide
  intro w b hw hb
  exact key ⟨w, hw⟩ ⟨b, by omega⟩ hb
theorem wc_any (p t e : Bool) : ∃ w, w < 8 ∧ wcP w = p ∧ wcT w = t ∧ wcE w = e := by
  cases p <;> cases t <;> cases e
  · exact ⟨0, by decide, rfl, rfl, rfl⟩
  · exact ⟨1, by decide, rfl, rfl, rfl⟩
  · exact ⟨2, by decide, rfl, rfl, rfl⟩
  · exact ⟨3, by decide, rfl, rfl, rfl⟩
  · exact ⟨4, by decide, rfl, rfl, rfl⟩
  · exact ⟨5, by decide, rfl, rfl, rfl⟩
  · exact ⟨6, by decide, rfl, rfl, rfl⟩
  · exact ⟨7, by decide, rfl, rfl, rfl⟩
section PLAIN
variable {d lt e k : Nat} {L : List Nat} {f : Nat → AC} {ps : List (Nat × Sen)} {x : Sen}
set_option maxHeartbeats 1000000 in
theorem t_addWhole {p : Bool} (hd : 8 ≤ d) (h : LtAt L f lt e ps) (hx : SW L f k x) (hl : ps.length + (wyB p x).length ≤ 24) : AM yX1_addWhole cX1_addWhole 4 none d 9 150 [.ref lt, .ref k, .int (iI (b2i p))] L f (LtPo L f lt e none (ps.map (fun p => p.2) ++ wyB p x)) := by
  have h36 := h.1.1
  obtain ⟨-, hlt, hflt⟩ := h.1
  have hx0 := hx
  obtain ⟨D, hS, hxo, hD⟩ := hx
  cases p with
  | false =>
    have M := t_add (d := d - 1) (by omega) h (by simp [wyB] at hl; omega) hx0
    refine AM.of (by decide +kernel) (by simp [Value.category]) (Nat.le_of_ble_eq_true rfl) false (fun h => by cases h) (fun X C => ?_)
    refine C.iload_n dX1_addWhole_0 rfl ?_
    refine C.if_neI (tgt := 10) dX1_addWhole_1 (by decide) (by decide) (fun hc1 => absurd hc1 (by decide)) (fun hc1 => ?_)
    refine C.aload_n dX1_addWhole_4 rfl ?_
    refine C.aload_n dX1_addWhole_5 rfl ?_
    refine C.callV (M) cw_X1_add ml_X1_40 im_X1_add sl_X1_add dX1_addWhole_6 hlt hflt rfl rfl (by omega) (by omega) (by omega) (Nat.le_of_ble_eq_true rfl) rfl (fun r6 L6 f6 hR6 => ?_)
    obtain ⟨rfl, e3, hA3, hF3, he3⟩ := hR6
    refine C.vret rfl dX1_addWhole_9 (by omega) (by omega) ⟨rfl, e3, _, ?_, hA3, hF3, he3⟩
    rw [List.map_append]
    rfl
  | true =>
    have hlen := hxo.1.1.1
    change ps.length + (x.1.1.map (wAct x)).length ≤ 24 at hl
    rw [List.length_map] at hl
    refine AM.of (by decide +kernel) (by simp [Value.category]) (Nat.le_of_ble_eq_true rfl) false (fun h => by cases h) (fun X C => ?_)
    have loop : ∀ (n j : Nat) (L1 : List Nat) (f1 : Nat → AC) (e1 : Nat) (ps1 : List (Nat × Sen)), j + n = x.1.1.length → ps1.map (fun p => p.2) = ps.map (fun p => p.2) ++ (x.1.1.take j).map (wAct x) → LtAt L1 f1 lt e1 ps1 → Fp L f L1 f1 → FqL (lt + 1) e L f L1 f1 → (e1 = e ∨ (e1 ∉ L ∧ 2000 ≤ e1)) → X (3 * j) (50 * j) L1 f1 12 [some (.ref lt), some (.ref k), some (.int (iI 1)), some (.int (iI j))] [] := by
      intro n
      induction n with
      | zero =>
        intro j L1 f1 e1 ps1 hj hps hA hFp hF he1
        rw [show x.1.1.take j = x.1.1 from List.take_of_length_le (by omega)] at hps
        obtain ⟨⟨hkL, -⟩, e0, w0, u0, hfk, ⟨he0, -, g0, hfe0, hg0⟩, -⟩ := hS.keep hFp
        refine C.iload_n dX1_addWhole_12 rfl ?_
        refine C.aload_n dX1_addWhole_13 rfl ?_
        refine C.getf gf_X1_43 dX1_addWhole_14 hkL hfk rfl ?_
        refine C.alenI dX1_addWhole_17 he0 hfe0 (by decide) ?_
        refine C.icmp_geI (tgt := 36) dX1_addWhole_18 (by decide) (by omega) (by omega) (fun hc18 => ?_) (fun hc18 => absurd hc18 (by omega))
        refine C.vret rfl dX1_addWhole_36 (by omega) (by omega) ⟨rfl, e1, ps1, hps, hA, hF, he1⟩
        skip
      | succ n ih =>
        intro j L1 f1 e1 ps1 hj hps hA hFp hF he1
        have hvi : x.1.1[j]? = some (x.1.1[j]'(by omega)) := List.getElem?_eq_getElem _
        generalize x.1.1[j]'(by omega) = v at hvi
        have hSj := hS.keep hFp
        have M2 := s_withAct (d := d - 1) (by omega) hvi hSj hxo
        obtain ⟨⟨hkL, -⟩, e0, w0, u0, hfk, ⟨he0, -, g0, hfe0, hg0⟩, -⟩ := hSj
        have hl1 : ps1.length = ps.length + j := by
          have := congrArg List.length hps
          rw [List.length_map, List.length_append, List.length_map, List.length_map, List.length_take] at this
          omega
        refine C.iload_n dX1_addWhole_12 rfl ?_
        refine C.aload_n dX1_addWhole_13 rfl ?_
        refine C.getf gf_X1_43 dX1_addWhole_14 hkL hfk rfl ?_
        refine C.alenI dX1_addWhole_17 he0 hfe0 (by decide) ?_
        refine C.icmp_geI (tgt := 36) dX1_addWhole_18 (by decide) (by omega) (by omega) (fun hc18 => absurd hc18 (by omega)) (fun hc18 => ?_)
        refine C.aload_n dX1_addWhole_21 rfl ?_
        refine C.aload_n dX1_addWhole_22 rfl ?_
        refine C.iload_n dX1_addWhole_23 rfl ?_
        refine C.callV (M2) cw_X3_withAct ml_X1_47 im_X3_withAct sl_X3_withAct dX1_addWhole_24 hkL hfk rfl rfl (by omega) (by omega) (by omega) (Nat.le_of_ble_eq_true rfl) rfl (fun r24 L24 f24 hR24 => ?_)
        obtain ⟨q, rfl, hS9, hF9⟩ := hR24
        skip
        have h9 := hA.keepO hF9
        have M4 := t_add (d := d - 1) (x := wAct x v) (by omega) h9 (by omega) ⟨D, hS9, hxo.wAct (List.mem_of_getElem? hvi), hD⟩
        obtain ⟨cap9, hls9⟩ := h9.2.1
        obtain ⟨-, -, -, hq9⟩ := hls9.obj
        obtain ⟨-, hlt9, hflt9⟩ := h9.1
        refine C.callV (M4) cw_X1_add ml_X1_40 im_X1_add sl_X1_add dX1_addWhole_27 hlt9 hflt9 rfl rfl (by omega) (by omega) (by omega) (Nat.le_of_ble_eq_true rfl) rfl (fun r27 L27 f27 hR27 => ?_)
        obtain ⟨rfl, e3, hA3, hF3, he3⟩ := hR27
        refine C.iincI dX1_addWhole_30 rfl (by decide) rfl ?_
        refine C.goto (tgt := 12) dX1_addWhole_33 (by decide) ?_
        skip
        refine C.wide (ce2 := 3 * (j + 1)) (sl2 := 50 * (j + 1)) (by omega) (by omega) ?_
        refine ih (j + 1) _ _ e3 _ (by omega) ?_ hA3 ((hFp.tr hF9.p).tr (hF3.p (by omega) hq9)) ((hF.tr hF9.ql he1).tr hF3 he1) ?_
        · rw [List.map_append, hps, List.take_add_one, hvi]
          simp
        · rcases he3 with rfl | ⟨h1, h2⟩
          · exact he1
          · exact Or.inr ⟨fun h => h1 (hF9.1 _ (hF.1 _ h)), h2⟩
    refine C.iload_n dX1_addWhole_0 rfl ?_
    refine C.if_neI (tgt := 10) dX1_addWhole_1 (by decide) (by decide) (fun hc1 => ?_) (fun hc1 => absurd hc1 (by decide))
    refine C.ic dX1_addWhole_10 ?_
    refine C.istore_n dX1_addWhole_11 (by decide) rfl ?_
    exact loop x.1.1.length 0 _ _ e ps (by omega) (by simp) h Fp.rf FqL.rf (Or.inl rfl)
end PLAIN
