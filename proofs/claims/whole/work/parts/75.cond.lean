/-! the class's conditions -/
def knd : TT → Int
  | .count _ => 3
  | .not _ => 2
  | .and _ _ => 1
  | _ => 0
def num : TT → Int
  | .count n => n
  | _ => -1
def pcs : TT → List TT
  | .count _ => []
  | .not c => [c]
  | .and a b => andL (.and a b)
  | .or a b => orL (.or a b)
  | _ => []
def trL : List Int64 := [-6148914691236517206, -3689348814741910324, -1085102592571150096, -71777214294589696, -281470681808896, -4294967296]
/-- the cases in which a condition is so, a bit for each -/
def tvL : TT → Int64
  | .count n => trL.getD n 0
  | .not c => tvL c ^^^ (-1)
  | .and a b => tvL a &&& tvL b
  | .or a b => tvL a ||| tvL b
  | _ => 0
/-- a condition's fields -/
def CO (t : TT) (p : Nat) : List Value := [.int (iI (knd t)), .int (iI (num t)), .ref p, .long (tvL t), .int (iI (wd t)), .int (iI (nt t)), .int (iI (b2i (hn t)))]
abbrev aC (n : Nat) (gr : Nat → Option Nat) : AC := .inl (4, n, .inr (.inr (.inr (.inr gr))))
/-- the thing k is the condition t, less than D deep -/
def CAt (L : List Nat) (f : Nat → AC) : Nat → Nat → TT → Prop
  | 0, _, _ => False
  | D + 1, k, t => (2000 ≤ k ∧ k ∈ L) ∧ ∃ (p : Nat) (gr : Nat → Option Nat), f k = .inr (3, CO t p) ∧ (2000 ≤ p ∧ p ∈ L) ∧ f p = aC (pcs t).length gr ∧ ∀ i x, (pcs t)[i]? = some x → ∃ q, gr i = some q ∧ CAt L f D q x
/-- what lives on: all things of the pool but lists' rows -/
def Fp (L : List Nat) (f : Nat → AC) (L' : List Nat) (f' : Nat → AC) : Prop := (∀ q ∈ L, q ∈ L') ∧ ∀ q ∈ L, 2000 ≤ q → (∀ n g, f q ≠ .inl (5, n, g)) → f' q = f q
theorem Fp.rf {L : List Nat} {f : Nat → AC} : Fp L f L f := ⟨fun _ h => h, fun _ _ _ _ => rfl⟩
theorem Fp.tr {L1 L2 L3 : List Nat} {f1 f2 f3 : Nat → AC} (h1 : Fp L1 f1 L2 f2) (h2 : Fp L2 f2 L3 f3) : Fp L1 f1 L3 f3 :=
  ⟨fun q hq => h2.1 q (h1.1 q hq), fun q hq h h5 => by
    have e := h1.2 q hq h h5
    rw [h2.2 q (h1.1 q hq) h (by rw [e]; exact h5), e]⟩
/-- all that lived is as it was -/
def Fo (L : List Nat) (f : Nat → AC) (L' : List Nat) (f' : Nat → AC) : Prop := (∀ q ∈ L, q ∈ L') ∧ ∀ q ∈ L, f' q = f q
theorem Fo.rf {L : List Nat} {f : Nat → AC} : Fo L f L f := ⟨fun _ h => h, fun _ _ => rfl⟩
theorem Fo.tr {L1 L2 L3 : List Nat} {f1 f2 f3 : Nat → AC} (h1 : Fo L1 f1 L2 f2) (h2 : Fo L2 f2 L3 f3) : Fo L1 f1 L3 f3 :=
  ⟨fun q hq => h2.1 q (h1.1 q hq), fun q hq => (h2.2 q (h1.1 q hq)).trans (h1.2 q hq)⟩
theorem Fo.p {L L' : List Nat} {f f' : Nat → AC} (h : Fo L f L' f') : Fp L f L' f' := ⟨h.1, fun q hq _ _ => h.2 q hq⟩
theorem Fo.new {L : List Nat} {f : Nat → AC} {k : Nat} {x : AC} (h : k ∉ L) : Fo L f (L ++ [k]) (va_up f k x) := ⟨fun q hq => List.mem_append_left _ hq, fun q hq => va_up_ne _ _ (fun (e : q = k) => h (e ▸ hq))⟩
theorem Fo.up {L L' : List Nat} {f f' : Nat → AC} {k : Nat} {x : AC} (h : Fo L f L' f') (hk : k ∉ L) : Fo L f L' (va_up f' k x) := ⟨h.1, fun q hq => (va_up_ne _ _ (fun (e : q = k) => hk (e ▸ hq))).trans (h.2 q hq)⟩
theorem CAt.keep {L L' : List Nat} {f f' : Nat → AC} (hF : Fp L f L' f') : ∀ (D : Nat) {k : Nat} {t : TT}, CAt L f D k t → CAt L' f' D k t := by
  intro D
  induction D with
  | zero => intro k t h; exact h.elim
  | succ D ih =>
    intro k t h
    obtain ⟨⟨h1, h2⟩, p, gr, h3, ⟨h4, h5⟩, h6, h7⟩ := h
    refine ⟨⟨h1, hF.1 k h2⟩, p, gr, ?_, ⟨h4, hF.1 p h5⟩, ?_, fun i x hi => ?_⟩
    · rw [hF.2 k h2 h1 (fun n g e => by rw [h3] at e; cases e)]; exact h3
    · rw [hF.2 p h5 h4 (fun n g e => by rw [h6] at e; cases e)]; exact h6
    · obtain ⟨q, hq, hc⟩ := h7 i x hi
      exact ⟨q, hq, ih hc⟩
theorem CAt.mono {L : List Nat} {f : Nat → AC} : ∀ (D : Nat) {D' k : Nat} {t : TT}, D ≤ D' → CAt L f D k t → CAt L f D' k t := by
  intro D
  induction D with
  | zero => intro D' k t _ h; exact h.elim
  | succ D ih =>
    intro D' k t hD h
    cases D' with
    | zero => omega
    | succ D' =>
      obtain ⟨h12, p, gr, h3, h45, h6, h7⟩ := h
      refine ⟨h12, p, gr, h3, h45, h6, fun i x hi => ?_⟩
      obtain ⟨q, hq, hc⟩ := h7 i x hi
      exact ⟨q, hq, ih (by omega) hc⟩
theorem CAt.obj {L : List Nat} {f : Nat → AC} {D k : Nat} {t : TT} (h : CAt L f D k t) : k ∈ L ∧ 2000 ≤ k ∧ ∃ p, f k = .inr (3, CO t p) := by
  cases D with
  | zero => exact h.elim
  | succ D =>
    obtain ⟨⟨h1, h2⟩, p, gr, h3, -⟩ := h
    exact ⟨h2, h1, p, h3⟩
/-- a row of conditions joined by the sort of row -/
def jKind (kd : Int) (xs : List TT) : List Value := [.int (iI kd), .int (iI (-1))]
def aAll (xs : List TT) : Int64 := xs.foldl (fun z x => z &&& tvL x) (-1)
def aAny (xs : List TT) : Int64 := xs.foldl (fun z x => z ||| tvL x) 0
def sWd (xs : List TT) : Nat := (xs.map wd).sum
def sNt (xs : List TT) : Nat := (xs.map nt).sum
def isN : TT → Bool
  | .not _ => true
  | _ => false
def sHn (kd : Int) (xs : List TT) : Bool := xs.any (fun x => hn x || (decide (kd = 2) && isN x))
def CF (kd : Int) (xs : List TT) (p : Nat) : List Value := [.int (iI kd), .int (iI (-1)), .ref p, .long (if kd = 2 then aAny xs ^^^ (-1) else if kd = 1 then aAll xs else aAny xs), .int (iI (if kd = 2 then (sWd xs : Int) + 1 else (sWd xs : Int) + xs.length - 1)), .int (iI (if kd = 2 then (sNt xs : Int) + 1 else (sNt xs : Int))), .int (iI (b2i (sHn kd xs)))]
def fsC : List Value := [.int 0, .int 0, .null, .long 0, .int 0, .int 0, .int 0]
theorem isN_knd (t : TT) (ht : isT t) : isN t = decide (knd t = 2) := by
  rcases isT_small ht with ⟨n, hn, rfl⟩ | ⟨c, hc, rfl⟩ | ⟨a, b, ha, hb, rfl⟩ | ⟨a, b, ha, hb, rfl⟩ <;> rfl
set_option maxRecDepth 20000 in
set_option maxHeartbeats 2000000 in
theorem c_init2 {d k p D : Nat} {L : List Nat} {f : Nat → AC} {kd : Int} {xs : List TT} {gr : Nat → Option Nat} (hd : 1 ≤ d) (hkd : kd = 0 ∨ kd = 1 ∨ kd = 2) (hk : k ∈ L) (hf : f k = .inr (3, fsC)) (hp : p ∈ L) (hfp : f p = aC xs.length gr) (hl : xs.length < 1000) (hel : ∀ i x, xs[i]? = some x → isT x ∧ ∃ q, gr i = some q ∧ CAt L f D q x) : AM yX0_init_ cX0_init_ 14 none d 0 0 [.ref k, .int (iI kd), .ref p] L f (SP none L (va_up f k (.inr (3, CF kd xs p)))) := by
  refine AM.of (by decide +kernel) (by simp [Value.category]) (Nat.le_of_ble_eq_true rfl) true (fun _ => rfl) (fun X C => ?_)
  have fin : ∀ v12 v13, X 0 0 L f 123 [some (.ref k), some (.int (iI kd)), some (.ref p), some (.long (aAll xs)), none, some (.long (aAny xs)), none, some (.int (iI (sWd xs))), some (.int (iI (sNt xs))), some (.int (iI (b2i (sHn kd xs)))), some (.ref p), some (.int (iI xs.length)), v12, v13] [] := by
    intro v12 v13
    have hz := b2i_rng (sHn kd xs)
    rcases hkd with h | h | h
    · subst h
      refine C.aload_n dX0_init__123 rfl ?_
      refine C.iload_n dX0_init__124 rfl ?_
      refine C.putF pf_X0_11 dX0_init__125 hk hf rfl rfl (Nat.le_of_ble_eq_true rfl) ?_
      refine C.aload_n dX0_init__128 rfl ?_
      refine C.ic dX0_init__129 ?_
      refine C.putF pf_X0_15 dX0_init__130 hk (va_up_self _ _ _) rfl rfl (Nat.le_of_ble_eq_true rfl) ?_
      rw [up_up]
      refine C.aload_n dX0_init__133 rfl ?_
      refine C.aload_n dX0_init__134 rfl ?_
      refine C.putF pf_X0_18 dX0_init__135 hk (va_up_self _ _ _) rfl rfl (Nat.le_of_ble_eq_true rfl) ?_
      rw [up_up]
      refine C.aload_n dX0_init__138 rfl ?_
      refine C.iload_n dX0_init__139 rfl ?_
      refine C.ic dX0_init__140 ?_
      refine C.icmp_neI (tgt := 153) dX0_init__141 (by decide) (by omega) (by omega) (fun hc141 => ?_) (fun hc141 => absurd hc141 (by decide))
      refine C.iload_n dX0_init__153 rfl ?_
      refine C.ic dX0_init__154 ?_
      refine C.icmp_neI (tgt := 162) dX0_init__155 (by decide) (by omega) (by omega) (fun hc155 => ?_) (fun hc155 => absurd hc155 (by decide))
      refine C.lload dX0_init__162 rfl ?_
      refine C.putF pf_X0_26 dX0_init__164 hk (va_up_self _ _ _) rfl rfl (Nat.le_of_ble_eq_true rfl) ?_
      rw [up_up]
      refine C.aload_n dX0_init__167 rfl ?_
      refine C.iload_n dX0_init__168 rfl ?_
      refine C.ic dX0_init__169 ?_
      refine C.icmp_neI (tgt := 180) dX0_init__170 (by decide) (by omega) (by omega) (fun hc170 => ?_) (fun hc170 => absurd hc170 (by decide))
      refine C.iload dX0_init__180 rfl ?_
      refine C.aload_n dX0_init__182 rfl ?_
      refine C.alenI dX0_init__183 hp ((va_up_ne _ _ (fun (e : p = k) => by rw [e, hf] at hfp; cases hfp)).trans hfp) (by decide) ?_
      refine C.iaddI dX0_init__184 ?_
      refine C.ic dX0_init__185 ?_
      refine C.isubI dX0_init__186 ?_
      refine C.putF pf_X0_30 dX0_init__187 hk (va_up_self _ _ _) rfl rfl (Nat.le_of_ble_eq_true rfl) ?_
      rw [up_up]
      refine C.aload_n dX0_init__190 rfl ?_
      refine C.iload_n dX0_init__191 rfl ?_
      refine C.ic dX0_init__192 ?_
      refine C.icmp_neI (tgt := 203) dX0_init__193 (by decide) (by omega) (by omega) (fun hc193 => ?_) (fun hc193 => absurd hc193 (by decide))
      refine C.iload dX0_init__203 rfl ?_
      refine C.putF pf_X0_33 dX0_init__205 hk (va_up_self _ _ _) rfl rfl (Nat.le_of_ble_eq_true rfl) ?_
      rw [up_up]
      refine C.aload_n dX0_init__208 rfl ?_
      refine C.iload dX0_init__209 rfl ?_
      refine C.putF pf_X0_36 dX0_init__211 hk (va_up_self _ _ _) (iI_bool hz).1 (iI_bool hz).2.1 (Nat.le_of_ble_eq_true rfl) ?_
      rw [up_up]
      refine C.vret rfl dX0_init__214 (Nat.le_refl _) (Nat.le_refl _) ⟨rfl, rfl, rfl⟩
      skip
    · subst h
      refine C.aload_n dX0_init__123 rfl ?_
      refine C.iload_n dX0_init__124 rfl ?_
      refine C.putF pf_X0_11 dX0_init__125 hk hf rfl rfl (Nat.le_of_ble_eq_true rfl) ?_
      refine C.aload_n dX0_init__128 rfl ?_
      refine C.ic dX0_init__129 ?_
      refine C.putF pf_X0_15 dX0_init__130 hk (va_up_self _ _ _) rfl rfl (Nat.le_of_ble_eq_true rfl) ?_
      rw [up_up]
      refine C.aload_n dX0_init__133 rfl ?_
      refine C.aload_n dX0_init__134 rfl ?_
      refine C.putF pf_X0_18 dX0_init__135 hk (va_up_self _ _ _) rfl rfl (Nat.le_of_ble_eq_true rfl) ?_
      rw [up_up]
      refine C.aload_n dX0_init__138 rfl ?_
      refine C.iload_n dX0_init__139 rfl ?_
      refine C.ic dX0_init__140 ?_
      refine C.icmp_neI (tgt := 153) dX0_init__141 (by decide) (by omega) (by omega) (fun hc141 => ?_) (fun hc141 => absurd hc141 (by decide))
      refine C.iload_n dX0_init__153 rfl ?_
      refine C.ic dX0_init__154 ?_
      refine C.icmp_neI (tgt := 162) dX0_init__155 (by decide) (by omega) (by omega) (fun hc155 => absurd hc155 (fun h => h rfl)) (fun hc155 => ?_)
      refine C.lload_n dX0_init__158 rfl ?_
      refine C.goto (tgt := 164) dX0_init__159 (by decide) ?_
      refine C.putF pf_X0_26 dX0_init__164 hk (va_up_self _ _ _) rfl rfl (Nat.le_of_ble_eq_true rfl) ?_
      rw [up_up]
      refine C.aload_n dX0_init__167 rfl ?_
      refine C.iload_n dX0_init__168 rfl ?_
      refine C.ic dX0_init__169 ?_
      refine C.icmp_neI (tgt := 180) dX0_init__170 (by decide) (by omega) (by omega) (fun hc170 => ?_) (fun hc170 => absurd hc170 (by decide))
      refine C.iload dX0_init__180 rfl ?_
      refine C.aload_n dX0_init__182 rfl ?_
      refine C.alenI dX0_init__183 hp ((va_up_ne _ _ (fun (e : p = k) => by rw [e, hf] at hfp; cases hfp)).trans hfp) (by decide) ?_
      refine C.iaddI dX0_init__184 ?_
      refine C.ic dX0_init__185 ?_
      refine C.isubI dX0_init__186 ?_
      refine C.putF pf_X0_30 dX0_init__187 hk (va_up_self _ _ _) rfl rfl (Nat.le_of_ble_eq_true rfl) ?_
      rw [up_up]
      refine C.aload_n dX0_init__190 rfl ?_
      refine C.iload_n dX0_init__191 rfl ?_
      refine C.ic dX0_init__192 ?_
      refine C.icmp_neI (tgt := 203) dX0_init__193 (by decide) (by omega) (by omega) (fun hc193 => ?_) (fun hc193 => absurd hc193 (by decide))
      refine C.iload dX0_init__203 rfl ?_
      refine C.putF pf_X0_33 dX0_init__205 hk (va_up_self _ _ _) rfl rfl (Nat.le_of_ble_eq_true rfl) ?_
      rw [up_up]
      refine C.aload_n dX0_init__208 rfl ?_
      refine C.iload dX0_init__209 rfl ?_
      refine C.putF pf_X0_36 dX0_init__211 hk (va_up_self _ _ _) (iI_bool hz).1 (iI_bool hz).2.1 (Nat.le_of_ble_eq_true rfl) ?_
      rw [up_up]
      refine C.vret rfl dX0_init__214 (Nat.le_refl _) (Nat.le_refl _) ⟨rfl, rfl, rfl⟩
      skip
    · subst h
      refine C.aload_n dX0_init__123 rfl ?_
      refine C.iload_n dX0_init__124 rfl ?_
      refine C.putF pf_X0_11 dX0_init__125 hk hf rfl rfl (Nat.le_of_ble_eq_true rfl) ?_
      refine C.aload_n dX0_init__128 rfl ?_
      refine C.ic dX0_init__129 ?_
      refine C.putF pf_X0_15 dX0_init__130 hk (va_up_self _ _ _) rfl rfl (Nat.le_of_ble_eq_true rfl) ?_
      rw [up_up]
      refine C.aload_n dX0_init__133 rfl ?_
      refine C.aload_n dX0_init__134 rfl ?_
      refine C.putF pf_X0_18 dX0_init__135 hk (va_up_self _ _ _) rfl rfl (Nat.le_of_ble_eq_true rfl) ?_
      rw [up_up]
      refine C.aload_n dX0_init__138 rfl ?_
      refine C.iload_n dX0_init__139 rfl ?_
      refine C.ic dX0_init__140 ?_
      refine C.icmp_neI (tgt := 153) dX0_init__141 (by decide) (by omega) (by omega) (fun hc141 => absurd hc141 (fun h => h rfl)) (fun hc141 => ?_)
      refine C.lload dX0_init__144 rfl ?_
      refine C.ldcl dX0_init__146 kc_X0_40 ?_
      refine C.lxor dX0_init__149 ?_
      refine C.goto (tgt := 164) dX0_init__150 (by decide) ?_
      refine C.putF pf_X0_26 dX0_init__164 hk (va_up_self _ _ _) rfl rfl (Nat.le_of_ble_eq_true rfl) ?_
      rw [up_up]
      refine C.aload_n dX0_init__167 rfl ?_
      refine C.iload_n dX0_init__168 rfl ?_
      refine C.ic dX0_init__169 ?_
      refine C.icmp_neI (tgt := 180) dX0_init__170 (by decide) (by omega) (by omega) (fun hc170 => absurd hc170 (fun h => h rfl)) (fun hc170 => ?_)
      refine C.iload dX0_init__173 rfl ?_
      refine C.ic dX0_init__175 ?_
      refine C.iaddI dX0_init__176 ?_
      refine C.goto (tgt := 187) dX0_init__177 (by decide) ?_
      refine C.putF pf_X0_30 dX0_init__187 hk (va_up_self _ _ _) rfl rfl (Nat.le_of_ble_eq_true rfl) ?_
      rw [up_up]
      refine C.aload_n dX0_init__190 rfl ?_
      refine C.iload_n dX0_init__191 rfl ?_
      refine C.ic dX0_init__192 ?_
      refine C.icmp_neI (tgt := 203) dX0_init__193 (by decide) (by omega) (by omega) (fun hc193 => absurd hc193 (fun h => h rfl)) (fun hc193 => ?_)
      refine C.iload dX0_init__196 rfl ?_
      refine C.ic dX0_init__198 ?_
      refine C.iaddI dX0_init__199 ?_
      refine C.goto (tgt := 205) dX0_init__200 (by decide) ?_
      refine C.putF pf_X0_33 dX0_init__205 hk (va_up_self _ _ _) rfl rfl (Nat.le_of_ble_eq_true rfl) ?_
      rw [up_up]
      refine C.aload_n dX0_init__208 rfl ?_
      refine C.iload dX0_init__209 rfl ?_
      refine C.putF pf_X0_36 dX0_init__211 hk (va_up_self _ _ _) (iI_bool hz).1 (iI_bool hz).2.1 (Nat.le_of_ble_eq_true rfl) ?_
      rw [up_up]
      refine C.vret rfl dX0_init__214 (Nat.le_refl _) (Nat.le_refl _) ⟨rfl, rfl, rfl⟩
      skip
  have loop : ∀ (ys done : List TT), xs = done ++ ys → ∀ v13, X 0 0 L f 31 [some (.ref k), some (.int (iI kd)), some (.ref p), some (.long (aAll done)), none, some (.long (aAny done)), none, some (.int (iI (sWd done))), some (.int (iI (sNt done))), some (.int (iI (b2i (sHn kd done)))), some (.ref p), some (.int (iI xs.length)), some (.int (iI done.length)), v13] [] := by
    intro ys
    induction ys with
    | nil =>
      intro done hdn v13
      rw [List.append_nil] at hdn
      subst hdn
      refine C.iload dX0_init__31 rfl ?_
      refine C.iload dX0_init__33 rfl ?_
      refine C.icmp_geI (tgt := 123) dX0_init__35 (by decide) (by omega) (by omega) (fun hc35 => ?_) (fun hc35 => absurd hc35 (by omega))
      exact fin _ _
    | cons y ys ih =>
      intro done hdn v13
      have hll : xs.length = done.length + (ys.length + 1) := by rw [hdn, List.length_append, List.length_cons]
      have hyi : xs[done.length]? = some y := by rw [hdn, List.getElem?_append_right (Nat.le_refl _), Nat.sub_self]; rfl
      obtain ⟨hyT, q, hq, hC⟩ := hel _ y hyi
      obtain ⟨hqL, -, pq, hfq⟩ := hC.obj
      have nx := ih (done ++ [y]) (by rw [hdn, List.append_assoc]; rfl)
      have e1 : aAll (done ++ [y]) = aAll done &&& tvL y := by unfold aAll; rw [List.foldl_append]; rfl
      have e2 : aAny (done ++ [y]) = aAny done ||| tvL y := by unfold aAny; rw [List.foldl_append]; rfl
      have e3 : ((sWd (done ++ [y]) : Nat) : Int) = (sWd done : Int) + wd y := by unfold sWd; rw [List.map_append, List.sum_append]; simp
      have e4 : ((sNt (done ++ [y]) : Nat) : Int) = (sNt done : Int) + nt y := by unfold sNt; rw [List.map_append, List.sum_append]; simp
      have e5 : sHn kd (done ++ [y]) = (sHn kd done || (hn y || (decide (kd = 2) && isN y))) := by unfold sHn; rw [List.any_append]; simp
      rw [e1, e2, e3, e4, e5, List.length_append] at nx
      have hn2 := isN_knd y hyT
      have hkr : 0 ≤ knd y ∧ knd y ≤ 3 := by
        rcases isT_small hyT with ⟨n, hn, rfl⟩ | ⟨c, hc, rfl⟩ | ⟨a, b, ha, hb, rfl⟩ | ⟨a, b, ha, hb, rfl⟩ <;> simp [knd]
      generalize sHn kd done = A at *
      refine C.iload dX0_init__31 rfl ?_
      refine C.iload dX0_init__33 rfl ?_
      refine C.icmp_geI (tgt := 123) dX0_init__35 (by decide) (by omega) (by omega) (fun hc35 => absurd hc35 (by omega)) (fun hc35 => ?_)
      refine C.aload dX0_init__38 rfl ?_
      refine C.iload dX0_init__40 rfl ?_
      refine C.aald4 dX0_init__42 hp hfp (iI_in (by omega) (by omega) (by omega)) ?_
      rw [iI_clamp (by omega), Int.toNat_natCast, hq]
      refine C.astore dX0_init__43 (by decide) rfl ?_
      refine C.lload_n dX0_init__45 rfl ?_
      refine C.aload dX0_init__46 rfl ?_
      refine C.getf gf_X0_26 dX0_init__48 hqL hfq rfl ?_
      refine C.land dX0_init__51 ?_
      refine C.lstore_n dX0_init__52 (by decide) rfl ?_
      refine C.lload dX0_init__53 rfl ?_
      refine C.aload dX0_init__55 rfl ?_
      refine C.getf gf_X0_26 dX0_init__57 hqL hfq rfl ?_
      refine C.lor dX0_init__60 ?_
      refine C.lstore dX0_init__61 (by decide) rfl ?_
      refine C.iload dX0_init__63 rfl ?_
      refine C.aload dX0_init__65 rfl ?_
      refine C.getf gf_X0_30 dX0_init__67 hqL hfq rfl ?_
      refine C.iaddI dX0_init__70 ?_
      refine C.istore dX0_init__71 (by decide) rfl ?_
      refine C.iload dX0_init__73 rfl ?_
      refine C.aload dX0_init__75 rfl ?_
      refine C.getf gf_X0_33 dX0_init__77 hqL hfq rfl ?_
      refine C.iaddI dX0_init__80 ?_
      refine C.istore dX0_init__81 (by decide) rfl ?_
      refine C.iload dX0_init__83 rfl ?_
      refine C.if_neI (tgt := 110) dX0_init__85 (by decide) (b2i_r3 _) (fun hc85 => ?_) (fun hc85 => ?_)
      · refine C.ic dX0_init__110 ?_
        refine C.goto (tgt := 115) dX0_init__111 (by decide) ?_
        refine C.topI (b := b2i (A || (hn y || (decide (kd = 2) && isN y)))) (by first | exact or1 hc85 | (rw [b2i_f hc85, b2i_t hc93]; rfl) | (rw [b2i_f hc85, b2i_f hc93, decide_eq_false hc98]; rfl) | (rw [b2i_f hc85, b2i_f hc93, hn2, decide_eq_true hc98, decide_eq_true hc107]; rfl) | (rw [b2i_f hc85, b2i_f hc93, hn2, decide_eq_false hc107]; simp [b2i])) ?_
        refine C.istore dX0_init__115 (by decide) rfl ?_
        refine C.iincI dX0_init__117 rfl (by decide) rfl ?_
        refine C.goto (tgt := 31) dX0_init__120 (by decide) ?_
        exact nx _
      · refine C.aload dX0_init__88 rfl ?_
        refine C.getf gf_X0_36 dX0_init__90 hqL hfq rfl ?_
        refine C.if_neI (tgt := 110) dX0_init__93 (by decide) (b2i_r3 _) (fun hc93 => ?_) (fun hc93 => ?_)
        · refine C.ic dX0_init__110 ?_
          refine C.goto (tgt := 115) dX0_init__111 (by decide) ?_
          refine C.topI (b := b2i (A || (hn y || (decide (kd = 2) && isN y)))) (by first | exact or1 hc85 | (rw [b2i_f hc85, b2i_t hc93]; rfl) | (rw [b2i_f hc85, b2i_f hc93, decide_eq_false hc98]; rfl) | (rw [b2i_f hc85, b2i_f hc93, hn2, decide_eq_true hc98, decide_eq_true hc107]; rfl) | (rw [b2i_f hc85, b2i_f hc93, hn2, decide_eq_false hc107]; simp [b2i])) ?_
          refine C.istore dX0_init__115 (by decide) rfl ?_
          refine C.iincI dX0_init__117 rfl (by decide) rfl ?_
          refine C.goto (tgt := 31) dX0_init__120 (by decide) ?_
          exact nx _
        · refine C.iload_n dX0_init__96 rfl ?_
          refine C.ic dX0_init__97 ?_
          refine C.icmp_neI (tgt := 114) dX0_init__98 (by decide) (by omega) (by omega) (fun hc98 => ?_) (fun hc98 => ?_)
          · refine C.ic dX0_init__114 ?_
            refine C.topI (b := b2i (A || (hn y || (decide (kd = 2) && isN y)))) (by first | exact or1 hc85 | (rw [b2i_f hc85, b2i_t hc93]; rfl) | (rw [b2i_f hc85, b2i_f hc93, decide_eq_false hc98]; rfl) | (rw [b2i_f hc85, b2i_f hc93, hn2, decide_eq_true hc98, decide_eq_true hc107]; rfl) | (rw [b2i_f hc85, b2i_f hc93, hn2, decide_eq_false hc107]; simp [b2i])) ?_
            refine C.istore dX0_init__115 (by decide) rfl ?_
            refine C.iincI dX0_init__117 rfl (by decide) rfl ?_
            refine C.goto (tgt := 31) dX0_init__120 (by decide) ?_
            exact nx _
          · refine C.aload dX0_init__101 rfl ?_
            refine C.getf gf_X0_11 dX0_init__103 hqL hfq rfl ?_
            refine C.ic dX0_init__106 ?_
            refine C.icmp_neI (tgt := 114) dX0_init__107 (by decide) (by omega) (by omega) (fun hc107 => ?_) (fun hc107 => ?_)
            · refine C.ic dX0_init__114 ?_
              refine C.topI (b := b2i (A || (hn y || (decide (kd = 2) && isN y)))) (by first | exact or1 hc85 | (rw [b2i_f hc85, b2i_t hc93]; rfl) | (rw [b2i_f hc85, b2i_f hc93, decide_eq_false hc98]; rfl) | (rw [b2i_f hc85, b2i_f hc93, hn2, decide_eq_true hc98, decide_eq_true hc107]; rfl) | (rw [b2i_f hc85, b2i_f hc93, hn2, decide_eq_false hc107]; simp [b2i])) ?_
              refine C.istore dX0_init__115 (by decide) rfl ?_
              refine C.iincI dX0_init__117 rfl (by decide) rfl ?_
              refine C.goto (tgt := 31) dX0_init__120 (by decide) ?_
              exact nx _
            · refine C.ic dX0_init__110 ?_
              refine C.goto (tgt := 115) dX0_init__111 (by decide) ?_
              refine C.topI (b := b2i (A || (hn y || (decide (kd = 2) && isN y)))) (by first | exact or1 hc85 | (rw [b2i_f hc85, b2i_t hc93]; rfl) | (rw [b2i_f hc85, b2i_f hc93, decide_eq_false hc98]; rfl) | (rw [b2i_f hc85, b2i_f hc93, hn2, decide_eq_true hc98, decide_eq_true hc107]; rfl) | (rw [b2i_f hc85, b2i_f hc93, hn2, decide_eq_false hc107]; simp [b2i])) ?_
              refine C.istore dX0_init__115 (by decide) rfl ?_
              refine C.iincI dX0_init__117 rfl (by decide) rfl ?_
              refine C.goto (tgt := 31) dX0_init__120 (by decide) ?_
              exact nx _
  have := loop xs [] rfl
  refine C.aload_n dX0_init__0 rfl ?_
  refine C.oinit dX0_init__1 (om_wsL_law0_r13 _ (List.mem_of_getElem? (i := 6) rfl)) (by omega) (Nat.le_of_ble_eq_true rfl) ?_
  refine C.ldcl dX0_init__4 kc_X0_40 ?_
  refine C.lstore_n dX0_init__7 (by decide) rfl ?_
  refine C.lconst dX0_init__8 rfl ?_
  refine C.lstore dX0_init__9 (by decide) rfl ?_
  refine C.ic dX0_init__11 ?_
  refine C.istore dX0_init__12 (by decide) rfl ?_
  refine C.ic dX0_init__14 ?_
  refine C.istore dX0_init__15 (by decide) rfl ?_
  refine C.ic dX0_init__17 ?_
  refine C.istore dX0_init__18 (by decide) rfl ?_
  refine C.aload_n dX0_init__20 rfl ?_
  refine C.astore dX0_init__21 (by decide) rfl ?_
  refine C.aload dX0_init__23 rfl ?_
  refine C.alenI dX0_init__25 hp hfp (by decide) ?_
  refine C.istore dX0_init__26 (by decide) rfl ?_
  refine C.ic dX0_init__28 ?_
  refine C.istore dX0_init__29 (by decide) rfl ?_
  exact this _
