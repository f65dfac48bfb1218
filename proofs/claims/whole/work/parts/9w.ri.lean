/-! the class and the reference side by side -/
section RII
variable {L L' : List Nat} {f f' f1 : Nat → AC} {c c' sf sf' : SF} {a a' sa sa' : SA} {xs ys ys' : List Sen} {n t : Nat}
theorem ov_out {g : Nat → AC} {k : Nat} (h : k < 20 ∨ 35 ≤ k) : ov sf sa g k = g k := by
  unfold ov
  rw [if_neg (by omega), if_neg (by omega), if_neg (by omega), if_neg (by omega), if_neg (by omega), if_neg (by omega), if_neg (by omega), if_neg (by omega), if_neg (by omega), if_neg (by omega), if_neg (by omega), if_neg (by omega), if_neg (by omega), if_neg (by omega), if_neg (by omega)]
theorem ov_in {g g' : Nat → AC} {k : Nat} (h : 20 ≤ k) (h2 : k < 35) : ov sf sa g k = ov sf sa g' k := by
  rcases (show k = 20 ∨ k = 21 ∨ k = 22 ∨ k = 23 ∨ k = 24 ∨ k = 25 ∨ k = 26 ∨ k = 27 ∨ k = 28 ∨ k = 29 ∨ k = 30 ∨ k = 31 ∨ k = 32 ∨ k = 33 ∨ k = 34 by omega) with h | h | h | h | h | h | h | h | h | h | h | h | h | h | h <;> subst h <;> rfl
theorem ov_no6 {g : Nat → AC} {k : Nat} (h : 20 ≤ k) (h2 : k < 35) (fs : List Value) : ov sf sa g k ≠ .inr (6, fs) := by
  rcases (show k = 20 ∨ k = 21 ∨ k = 22 ∨ k = 23 ∨ k = 24 ∨ k = 25 ∨ k = 26 ∨ k = 27 ∨ k = 28 ∨ k = 29 ∨ k = 30 ∨ k = 31 ∨ k = 32 ∨ k = 33 ∨ k = 34 by omega) with h | h | h | h | h | h | h | h | h | h | h | h | h | h | h <;> subst h <;> intro e <;> cases e
theorem LtAt.fr {lt e : Nat} {ps : List (Nat × Sen)} (h : LtAt L f lt e ps) (hlt : lt < 17) (he : eOK e) (hf : ∀ q ∈ L, (q < 20 ∨ 36 ≤ q) → f' q = f q) (hno : ∀ q, 20 ≤ q → q < 36 → ∀ fs, f q ≠ .inr (6, fs)) : LtAt L f' lt e ps := by
  obtain ⟨⟨h1, h2, h3⟩, ⟨cap, ⟨m, gr, g1, g2, g3, g4⟩, ⟨g5, g6⟩, g7, g8, g9⟩, h5⟩ := h
  refine ⟨⟨h1, h2, by rw [hf lt h2 (by omega)]; exact h3⟩, ⟨cap, ⟨m, gr, (hf _ g5 (by omega)).trans g1, (hf e g6 (by rcases he with he | he <;> omega)).trans g2, g3, fun i y hy => ?_⟩, ⟨g5, g6⟩, g7, g8, g9⟩, fun p hp => (h5 p hp).keep ⟨fun _ h => h, fun q hq h2 _ => hf q hq (by omega)⟩⟩
  obtain ⟨b1, fs, b2⟩ := g4 i y hy
  refine ⟨b1, fs, ?_⟩
  by_cases hy : 20 ≤ y ∧ y < 36
  · exact absurd b2 (hno y hy.1 hy.2 fs)
  · rw [hf y b1 (by omega)]
    exact b2
theorem KJ.fr (h : KJ L f c a xs ys) (hf : ∀ q, (q < 20 ∨ 36 ≤ q) → f' q = f q) (hno : ∀ q, 20 ≤ q → q < 36 → ∀ fs, f q ≠ .inr (6, fs)) : KJ L f' c a xs ys := by
  obtain ⟨e4, e13, e15, po, pn, ⟨⟨hK, hL, h18⟩, ⟨⟨p4, h4⟩, h13, h15⟩, hx, y1, y2, y3⟩, hp, hq⟩ := h
  exact ⟨e4, e13, e15, po, pn, ⟨⟨kv_to hK (fun q hq => hf q (by omega)), hL, ⟨h18.1, (hf 18 (by omega)).trans h18.2⟩⟩, ⟨⟨p4, h4.fr (by decide) y1 (fun q _ => hf q) hno⟩, h13.fr (by decide) y2 (fun q _ => hf q) hno, h15.fr (by decide) y3 (fun q _ => hf q) hno⟩, hx, y1, y2, y3⟩, hp, hq⟩
theorem OAt.isTO {D : Nat} {o : Option Nat} {w : Option TT} (h : OAt L f D o w) : isTO w := by
  cases w with
  | none => trivial
  | some t =>
    cases o with
    | none => exact h.elim
    | some q => exact h.2.1
theorem LtAt.ok1 {lt e : Nat} {ps : List (Nat × Sen)} (h : LtAt L f lt e ps) : ∀ p ∈ ps, Ok1 p.2 := fun p hp => by
  obtain ⟨D, ⟨-, e, w, u, -, -, h1, h2⟩, h3, -⟩ := h.2.2 p hp
  exact ⟨h3, h1.isTO, h2.isTO⟩
theorem KJ.ok (h : KJ L f c a xs ys) : (∀ x ∈ xs, Ok1 x) ∧ ∀ y ∈ ys, Ok1 y := by
  obtain ⟨e4, e13, e15, po, pn, ⟨-, ⟨-, h13, h15⟩, -⟩, rfl, rfl⟩ := h
  refine ⟨fun x hx => ?_, fun x hx => ?_⟩
  · obtain ⟨p, hp, rfl⟩ := List.mem_map.mp hx
    exact h13.ok1 p hp
  · obtain ⟨p, hp, rfl⟩ := List.mem_map.mp hx
    exact h15.ok1 p hp
theorem KJ.mem (h : KJ L f c a xs ys) : ∀ k, k < 36 → k ∈ L := by
  obtain ⟨e4, e13, e15, po, pn, ⟨⟨-, hL, -⟩, -⟩, -⟩ := h
  exact hL
/-- the reference lies at 20 on, the law's long[1] at 35 -/
def RB (f : Nat → AC) (sf : SF) (sa : SA) : Prop := f = ov sf sa f ∧ ∃ g, f 35 = cj_ 3 1 g
theorem RB.no (h : RB f sf sa) : ∀ q, 20 ≤ q → q < 36 → ∀ fs, f q ≠ .inr (6, fs) := fun q h1 h2 fs => by
  by_cases h3 : q = 35
  · obtain ⟨g, hg⟩ := h.2
    rw [h3, hg]
    intro e
    cases e
  · rw [h.1]
    exact ov_no6 h1 (by omega) fs
theorem RB.fm (h : RB f sf sa) (hL : ∀ k, k < 36 → k ∈ L) (hF : FM L f L' f1) : RB f1 sf sa := by
  obtain ⟨h1, g, hg⟩ := h
  refine ⟨?_, g, (hF.2 35 (hL 35 (by omega)) (by omega) (by omega)).trans hg⟩
  funext q
  by_cases hq : 20 ≤ q ∧ q < 35
  · rw [hF.2 q (hL q (by omega)) (by omega) (by omega), h1]
    exact ov_in hq.1 hq.2
  · exact (ov_out (by omega)).symm
theorem RB.u35 (h : RB f sf sa) (g : Nat → Int64) : RB (va_up f 35 (cj_ 3 1 g)) sf sa := by
  refine ⟨?_, g, va_up_self _ _ _⟩
  funext q
  by_cases hq : 20 ≤ q ∧ q < 35
  · rw [va_up_ne _ _ (by omega), h.1]
    exact ov_in hq.1 hq.2
  · exact (ov_out (by omega)).symm
theorem RB.to (h : RB f sf sa) : RB (ov sf' sa' f) sf' sa' := by
  obtain ⟨h1, g, hg⟩ := h
  refine ⟨?_, g, (ov_out (by omega)).trans hg⟩
  funext q
  by_cases hq : 20 ≤ q ∧ q < 35
  · exact ov_in hq.1 hq.2
  · exact (ov_out (by omega)).symm
theorem KJ.u35 (h : KJ L f c a xs ys) (hB : RB f sf sa) (g : Nat → Int64) : KJ L (va_up f 35 (cj_ 3 1 g)) c a xs ys := h.fr (fun q hq => va_up_ne _ _ (by omega)) hB.no
theorem KJ.ov (h : KJ L f c a xs ys) (hB : RB f sf sa) : KJ L (Jvm.Pilot.CPlainWordsLaw_law_r8322_ad55f8.ov sf' sa' f) c a xs ys := h.fr (fun q hq => ov_out (by omega)) hB.no
theorem RB.l35 (h : RB f sf sa) (hL : ∀ k, k < 36 → k ∈ L) : L35 L f := ⟨hL 35 (by omega), h.2⟩
/-- what they share -/
def RQ (t : Nat) (c : SF) (tb : Nat → Int) (sf : SF) (sa : SA) (xs ys : List Sen) (n : Nat) : Prop :=
  ((c 11 = n ∧ sf 21 = n ∧ n ≤ 400) ∧ tb = sa 32 ∧ TB sa) ∧ (c 5 = sf 25 ∧ c 6 = sf 11 ∧ c 7 = sf 12 ∧ 0 ≤ c 6 ∧ c 6 ≤ t) ∧ ((sf 13 = 0 ∧ c 6 = 0 ∧ xs = [] ∧ ys = []) ∨ (sf 13 = 1 ∧ 0 < c 6)) ∧ (sf 9 = xs.length ∧ sf 10 = ys.length) ∧ (SensAt sa 0 xs ∧ SensAt sa 24 ys) ∧ RX xs ∧ RY ys
def RI (t : Nat) (L : List Nat) (f : Nat → AC) : Prop := ∃ c a sf sa xs ys n, KJ L f c a xs ys ∧ RB f sf sa ∧ RQ t c (a 2) sf sa xs ys n
/-- the fields that matter -/
def Sj (sf sf' : SF) : Prop := sf' 9 = sf 9 ∧ sf' 10 = sf 10 ∧ sf' 11 = sf 11 ∧ sf' 12 = sf 12 ∧ sf' 13 = sf 13 ∧ sf' 21 = sf 21 ∧ sf' 25 = sf 25
theorem Sj.up0 (v : Int) : Sj sf (va_up sf 0 v) := ⟨rfl, rfl, rfl, rfl, rfl, rfl, rfl⟩
theorem Gq.sj (h : Gq sf sf') : Sj sf sf' := ⟨h 9 (by decide) (by decide) (by decide) (by decide) (by decide) (by decide) (by decide) (by decide) (by decide) (by decide), h 10 (by decide) (by decide) (by decide) (by decide) (by decide) (by decide) (by decide) (by decide) (by decide) (by decide), h 11 (by decide) (by decide) (by decide) (by decide) (by decide) (by decide) (by decide) (by decide) (by decide) (by decide), h 12 (by decide) (by decide) (by decide) (by decide) (by decide) (by decide) (by decide) (by decide) (by decide) (by decide), h 13 (by decide) (by decide) (by decide) (by decide) (by decide) (by decide) (by decide) (by decide) (by decide) (by decide), h 21 (by decide) (by decide) (by decide) (by decide) (by decide) (by decide) (by decide) (by decide) (by decide) (by decide), h 25 (by decide) (by decide) (by decide) (by decide) (by decide) (by decide) (by decide) (by decide) (by decide) (by decide)⟩
theorem Gq.z0 (h : Gq sf sf') : sf' 0 = sf 0 := h 0 (by decide) (by decide) (by decide) (by decide) (by decide) (by decide) (by decide) (by decide) (by decide) (by decide)
theorem Sj.tr {s2 : SF} (h1 : Sj sf sf') (h2 : Sj sf' s2) : Sj sf s2 := by
  obtain ⟨a1, a2, a3, a4, a5, a6, a7⟩ := h1
  obtain ⟨b1, b2, b3, b4, b5, b6, b7⟩ := h2
  exact ⟨b1.trans a1, b2.trans a2, b3.trans a3, b4.trans a4, b5.trans a5, b6.trans a6, b7.trans a7⟩
theorem RQ.keep {tb : Nat → Int} (h : RQ t c tb sf sa xs ys n) (hS : Sj sf sf') (hG : Go sa sa') : RQ (t + 1) c tb sf' sa' xs ys n := by
  obtain ⟨⟨⟨a1, a2, a3⟩, a4, a5⟩, ⟨b1, b2, b3, b4, b5⟩, b6, ⟨c1, c2⟩, ⟨d1, d2⟩, e1, e2⟩ := h
  obtain ⟨s1, s2, s3, s4, s5, s6, s7⟩ := hS
  have h32 := hG 32 (by decide)
  refine ⟨⟨⟨a1, s6.trans a2, a3⟩, a4.trans h32.symm, fun j => by rw [h32]; exact a5 j⟩, ⟨b1.trans s7.symm, b2.trans s3.symm, b3.trans s4.symm, b4, by omega⟩, by rw [s5]; exact b6, ⟨s1.trans c1, s2.trans c2⟩, ⟨d1.Go hG, d2.Go hG⟩, e1, e2⟩
theorem RQ.turn {tb : Nat → Int} {k : Int} (h : RQ t c tb sf sa xs ys n) (h13 : sf 13 = 1) (okx : ∀ x ∈ xs, Ok1 x) (hc7 : c' 7 = c 7 + k) (hc : c' 5 = c 5 ∧ c' 6 = c 6 ∧ c' 11 = c 11) (h12 : sf' 12 = sf 12 + k) (hs : sf' 9 = sf 9 ∧ sf' 11 = sf 11 ∧ sf' 13 = sf 13 ∧ sf' 21 = sf 21 ∧ sf' 25 = sf 25) (h10 : sf' 10 = ys'.length) (hy : SensAt sa' 24 ys') (hG : GbQ 24 75 sa sa') (hR : RY ys') : RQ (t + 1) c' tb sf' sa' xs ys' n := by
  obtain ⟨⟨⟨a1, a2, a3⟩, a4, a5⟩, ⟨b1, b2, b3, b4, b5⟩, b6, ⟨c1, c2⟩, ⟨d1, d2⟩, e1, e2⟩ := h
  obtain ⟨s1, s3, s5, s6, s7⟩ := hs
  obtain ⟨k5, k6, k11⟩ := hc
  have h32 := hG.tape
  refine ⟨⟨⟨k11.trans a1, s6.trans a2, a3⟩, a4.trans h32.symm, fun j => by rw [h32]; exact a5 j⟩, ⟨by omega, by omega, by omega, by omega, by omega⟩, Or.inr ⟨by omega, ?_⟩, ⟨s1.trans c1, h10⟩, ⟨d1.Q (fun x hx => (okx x hx).1) hG (Or.inl (by have := e1.1; omega)), hy⟩, e1, hR⟩
  rcases b6 with b6 | b6
  · omega
  · omega
/-- behind the wrapper's call: its number, and what the reference will do -/
def Pst (t : Nat) (y : MethodName) (cc : ByteArray) (nL : Nat) (rt : Option FieldType) (as : List Value) (B : Int → Prop) : AT := fun r L' f' => ∃ (code w : Int) (g : Nat → Int64) (sf : SF) (sa : SA), r = some (.int (iI code)) ∧ (∀ k, k < 36 → k ∈ L') ∧ f' 35 = cj_ 3 1 g ∧ (code = 0 → g 0 = (iI w).toInt64) ∧ (0 ≤ code ∧ code ≤ 3) ∧ f' = ov sf sa f' ∧ MM y cc nL rt 1250 as sf sa (fun r sf' sa' => (∃ w', r = some (.int (iI w')) ∧ (code = 0 → w' = w) ∧ B w') ∧ sf' 0 = code ∧ RI (t + 1) L' (ov sf' sa' f'))
/-- .. where nothing can be thrown -/
def Pdr (t : Nat) (y : MethodName) (cc : ByteArray) (nL : Nat) (rt : Option FieldType) (as : List Value) : AT := fun r L' f' => ∃ (w : Int) (sf : SF) (sa : SA), r = some (.int (iI w)) ∧ (∀ k, k < 36 → k ∈ L') ∧ f' = ov sf sa f' ∧ MM y cc nL rt 1250 as sf sa (fun r sf' sa' => r = some (.int (iI w)) ∧ RI (t + 1) L' (ov sf' sa' f'))
/-- .. where nothing is answered -/
def Pag (t : Nat) (y : MethodName) (cc : ByteArray) (nL : Nat) (as : List Value) : AT := fun r L' f' => ∃ (code : Int) (sf : SF) (sa : SA), r = some (.int (iI code)) ∧ (∀ k, k < 36 → k ∈ L') ∧ (0 ≤ code ∧ code ≤ 3) ∧ f' = ov sf sa f' ∧ MM y cc nL none 1250 as sf sa (fun r sf' sa' => r = none ∧ sf' 0 = code ∧ RI (t + 1) L' (ov sf' sa' f'))
theorem exN_ok {E : String} : 1 ≤ exN E ∧ exN E ≤ 3 := by
  unfold exN
  repeat' split
  all_goals omega
variable {y : MethodName} {cc : ByteArray} {nL : Nat} {rt : Option FieldType} {as : List Value} {B : Int → Prop}
theorem Pst.thr {E0 : String} (hJ : KJ L f c a xs ys) (hB : RB f sf sa) (hQ : RQ t c (a 2) sf sa xs ys n) (hb : B 0) (M : MM y cc nL rt 1250 as sf sa (fun r sf' sa' => r = some (.int (iI 0)) ∧ sf' = va_up sf 0 (exN E0) ∧ sa' = sa)) : ∀ r L' f', (∃ E, XP E0 L f E L' f' ∧ r = some (.int (iI (exN E)))) → Pst t y cc nL rt as B r L' f' := by
  rintro r L' f' ⟨E, ⟨rfl, rfl, rfl⟩, rfl⟩
  obtain ⟨h1, h2⟩ := exN_ok (E := E)
  obtain ⟨g, hg⟩ := hB.2
  refine ⟨exN E, 0, g, sf, sa, rfl, hJ.mem, hg, fun h => by omega, ⟨by omega, h2⟩, hB.1, M.imp (fun r sf' sa' hR => ?_)⟩
  obtain ⟨rfl, rfl, rfl⟩ := hR
  exact ⟨⟨0, rfl, fun h => rfl, hb⟩, va_up_self _ _ _, c, a, _, _, xs, ys, n, hJ.ov hB, hB.to, hQ.keep (Sj.up0 _) Go.rf⟩
theorem Pst.nrm {Po : AT} {w : Int} (hL : ∀ k, k < 36 → k ∈ L) (hB : RB f sf sa) (hb : B w) (hPo : ∀ r L' f1, Po r L' f1 → r = some (.int (iI w)) ∧ FM L f L' f1 ∧ ∃ (c' : SF) (a' : SA) (xs' ys' : List Sen) (n' : Nat), KJ L' f1 c' a' xs' ys' ∧ MM y cc nL rt 1250 as sf sa (fun r sf' sa' => r = some (.int (iI w)) ∧ sf' 0 = 0 ∧ RQ (t + 1) c' (a' 2) sf' sa' xs' ys' n')) : ∀ r L' f', WpL Po r L' f' → Pst t y cc nL rt as B r L' f' := by
  rintro r L' f' ⟨rfl, z, f1, g, hp, rfl, hg⟩
  obtain ⟨he, hF, c', a', xs', ys', n', hK, M⟩ := hPo _ _ _ hp
  have hB1 := hB.fm hL hF
  injection he with he
  injection he with he
  refine ⟨0, w, g, sf, sa, rfl, hK.mem, va_up_self _ _ _, fun _ => by rw [hg, he], ⟨by omega, by omega⟩, (hB1.u35 g).1, M.imp (fun r sf' sa' hR => ?_)⟩
  obtain ⟨rfl, h0, hQ⟩ := hR
  exact ⟨⟨w, rfl, fun _ => rfl, hb⟩, h0, c', a', _, _, xs', ys', n', (hK.u35 hB1 g).ov (hB1.u35 g), (hB1.u35 g).to, hQ⟩
theorem Pdr.of {Po : AT} {w : Int} (hL : ∀ k, k < 36 → k ∈ L) (hB : RB f sf sa) (hPo : ∀ r L' f1, Po r L' f1 → r = some (.int (iI w)) ∧ FM L f L' f1 ∧ ∃ (c' : SF) (a' : SA) (xs' ys' : List Sen) (n' : Nat), KJ L' f1 c' a' xs' ys' ∧ MM y cc nL rt 1250 as sf sa (fun r sf' sa' => r = some (.int (iI w)) ∧ RQ (t + 1) c' (a' 2) sf' sa' xs' ys' n')) : ∀ r L' f', Po r L' f' → Pdr t y cc nL rt as r L' f' := by
  intro r L' f' hp
  obtain ⟨he, hF, c', a', xs', ys', n', hK, M⟩ := hPo _ _ _ hp
  have hB1 := hB.fm hL hF
  refine ⟨w, sf, sa, he, hK.mem, hB1.1, M.imp (fun r sf' sa' hR => ?_)⟩
  exact ⟨hR.1, c', a', _, _, xs', ys', n', hK.ov hB1, hB1.to, hR.2⟩
theorem Pag.thr {E0 : String} (hJ : KJ L f c a xs ys) (hB : RB f sf sa) (hQ : RQ t c (a 2) sf sa xs ys n) (M : MM y cc nL none 1250 as sf sa (fun r sf' sa' => r = none ∧ sf' = va_up sf 0 (exN E0) ∧ sa' = sa)) : ∀ r L' f', (∃ E, XP E0 L f E L' f' ∧ r = some (.int (iI (exN E)))) → Pag t y cc nL as r L' f' := by
  rintro r L' f' ⟨E, ⟨rfl, rfl, rfl⟩, rfl⟩
  obtain ⟨h1, h2⟩ := exN_ok (E := E)
  refine ⟨exN E, sf, sa, rfl, hJ.mem, ⟨by omega, h2⟩, hB.1, M.imp (fun r sf' sa' hR => ?_)⟩
  obtain ⟨rfl, rfl, rfl⟩ := hR
  exact ⟨rfl, va_up_self _ _ _, c, a, _, _, xs, ys, n, hJ.ov hB, hB.to, hQ.keep (Sj.up0 _) Go.rf⟩
theorem Pag.nrm {Po : AT} (hL : ∀ k, k < 36 → k ∈ L) (hB : RB f sf sa) (hPo : ∀ L' f1, Po none L' f1 → FM L f L' f1 ∧ ∃ (c' : SF) (a' : SA) (xs' ys' : List Sen) (n' : Nat), KJ L' f1 c' a' xs' ys' ∧ MM y cc nL none 1250 as sf sa (fun r sf' sa' => r = none ∧ sf' 0 = 0 ∧ RQ (t + 1) c' (a' 2) sf' sa' xs' ys' n')) : ∀ r L' f', (r = some (.int (iI 0)) ∧ Po none L' f') → Pag t y cc nL as r L' f' := by
  rintro r L' f' ⟨rfl, hp⟩
  obtain ⟨hF, c', a', xs', ys', n', hK, M⟩ := hPo _ _ hp
  have hB1 := hB.fm hL hF
  refine ⟨0, sf, sa, rfl, hK.mem, ⟨by omega, by omega⟩, hB1.1, M.imp (fun r sf' sa' hR => ?_)⟩
  exact ⟨hR.1, hR.2.1, c', a', _, _, xs', ys', n', hK.ov hB1, hB1.to, hR.2.2⟩
theorem lettF_le {tb : Nat → Int} {e : Nat} : ∀ (m : Nat) (acc : List Sen) (p b : Nat), p ≤ e → lettF tb e m acc p = .inr b → b ≤ e := by
  intro m
  induction m with
  | zero => intro acc p b hp h; cases h; exact hp
  | succ m ih =>
    intro acc p b hp h
    unfold lettF at h
    have hle := sentP_le (tb := tb) hp
    cases hs : sentP tb e p with
    | inr q =>
      rw [hs, sb_r] at h
      rw [hs] at hle
      cases h
      exact hle
    | inl s =>
      obtain ⟨x, p1⟩ := s
      rw [hs] at hle
      have hle : p1 ≤ e := hle
      have hbe : bl tb e p1 ≤ e := bl_le hle
      rw [hs, sb_l] at h
      by_cases h1 : bl tb e p1 = e
      · rw [if_pos h1] at h
        cases h
      · rw [if_neg h1] at h
        by_cases h2 : inR tb e 59 59 (bl tb e p1) = true ∧ acc.length + 1 ≠ 8
        · rw [if_pos h2] at h
          exact ih (acc ++ [x]) (bl tb e p1 + 1) b (by omega) h
        · rw [if_neg h2] at h
          cases h
          exact hbe
end RII
