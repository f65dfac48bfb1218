/-! call by call: the class and the reference answer alike -/
def Prs (AWp : Nat → Nat → Nat → AT → Prop) (P : AT) : Prop := ∃ (d2 mc2 ms2 : Nat) (PoW : AT), d2 + 1 ≤ 1300 ∧ mc2 ≤ 1173 ∧ ms2 ≤ 14047 ∧ AWp d2 mc2 ms2 PoW ∧ ∀ r L' f', PoW r L' f' → P r L' f'
def B01 (w : Int) : Prop := w = 0 ∨ w = 1
def Bny (_ : Int) : Prop := True
theorem exN_IS : exN eIS = 1 := by unfold exN; rw [if_pos rfl]
theorem exN_IA : exN eIA = 1 := by unfold exN; rw [if_neg (by decide), if_pos rfl]
theorem exN_IO : exN eIO = 2 := by unfold exN; rw [if_neg (by decide), if_neg (by decide), if_pos rfl]
theorem exN_NE : exN eNE = 3 := by unfold exN; rw [if_neg (by decide), if_neg (by decide), if_neg (by decide)]
theorem rfC_0 {v k z : Int} (h : v = 0) : rfC v k z = exN eIS := by unfold rfC; rw [if_pos h, exN_IS]
theorem rfC_2 {v k z : Int} (h : v = 1) (hz : ¬ (0 ≤ z ∧ z < k)) : rfC v k z = exN eIO := by unfold rfC; rw [if_neg (by omega), if_neg (by omega), exN_IO]
theorem rfC_z {v k z : Int} (h : v = 1) (hz : 0 ≤ z ∧ z < k) : rfC v k z = 0 := by unfold rfC; rw [if_neg (by omega), if_pos (by omega)]
theorem ne_IS : exN eIS ≠ 0 := by rw [exN_IS]; decide
theorem ne_IO : exN eIO ≠ 0 := by rw [exN_IO]; decide
theorem ezS_idO {x : Sen} (h1 : isTO x.2.2.1) (h : canE x = false) : ezS x = x := by
  obtain ⟨b, dy, w, u⟩ := x
  unfold canE at h
  simp only [Bool.or_eq_false_iff, Bool.not_eq_false', decide_eq_true_eq] at h
  cases u with
  | some t => exact Bool.noConfusion (show (true : Bool) = false from h.1)
  | none =>
    cases w with
    | none => rfl
    | some t =>
      have := (ez_nt t h1).2 h.2
      show (b, dy, some (ez t), none) = (b, dy, some t, none)
      rw [this]
theorem wyL_T {p q e : Bool} {x : Sen} (ok : Ok1 x) (h : wyOk p q e x = true) : ∀ c ∈ wyL p q e x, Ok1 c := fun c hc => by
  have h1 := wyL_ok ok.1 h c hc
  refine ⟨h1, ?_⟩
  obtain ⟨b, hb, rfl⟩ := List.mem_map.mp hc
  have h2 : b.2 = x.2 := by
    unfold wyB at hb
    split at hb
    · obtain ⟨v, hv, rfl⟩ := List.mem_map.mp hb
      rfl
    · obtain rfl := List.mem_singleton.mp hb
      rfl
  have h3 : (wyT q b).2 = x.2 := by
    unfold wyT
    split
    · exact h2
    · exact h2
  generalize wyT q b = d at h3 ⊢
  unfold wyE
  split
  · refine ⟨?_, trivial⟩
    show isTO (ezO d.2.2.1 d.2.2.2)
    rw [h3]
    exact (ezO_le ok.2.1 ok.2.2).2.2
  · rw [h3]
    exact ok.2
theorem set_self {α : Type} {ys : List α} {i : Nat} {x : α} (h : ys[i]? = some x) : ys.set i x = ys := by
  obtain ⟨hl, rfl⟩ := List.getElem?_eq_some_iff.mp h
  exact List.set_getElem_self hl
theorem prt_len {ys : List Sen} {i : Nat} {x : Sen} (h : ys[i]? = some x) : (prt ys i x).length + 1 = ys.length + x.1.1.length := by
  have hl := (List.getElem?_eq_some_iff.mp h).1
  unfold prt
  simp only [List.length_append, List.length_take, List.length_drop, List.length_map]
  omega
theorem mel_len {ys : List Sen} {i : Nat} {x y : Sen} (h : ys[i + 1]? = some y) : (mel ys i x y).length + 1 = ys.length := by
  have hl := (List.getElem?_eq_some_iff.mp h).1
  unfold mel
  simp only [List.length_append, List.length_take, List.length_drop, List.length_cons]
  omega
section PAIR
variable {L : List Nat} {f : Nat → AC} {t : Nat} {z z1 z2 z3 z4 : Int} {bo : Bool}
theorem pr_part (ht : t ≤ 512) (hz : i3 z) (h : RI t L f) : Prs (fun d2 mc2 ms2 P => AW yL_part cL_part 4 (some .int) [(0, 16, 19, 19), (0, 16, 22, 21)] d2 mc2 ms2 [.ref 0, .int (iI z), .ref 35] L f P) (Pst t yX9_part cX9_part 5 (some .boolean) [.int (iI z)] B01) := by
  obtain ⟨c, a, sf, sa, xs, ys, n, hJ, hB, hQ⟩ := h
  have hJ0 := hJ
  obtain ⟨okx, oky⟩ := hJ0.ok
  obtain ⟨e4, e13, e15, po, pn, hI, hpo, hpn⟩ := hJ
  have hQ0 := hQ
  obtain ⟨⟨⟨a1, a2, a3⟩, a4, a5⟩, ⟨b1, b2, b3, b4, b5⟩, b6, ⟨c1, c2⟩, ⟨d1, d2⟩, e1, e2⟩ := hQ
  obtain ⟨h0L, h0f⟩ := hI.o0
  have hxl := e1.1
  have hyl := e2.1
  have hol : po.length = xs.length := by rw [← hpo, List.length_map]
  have hnl : pn.length = ys.length := by rw [← hpn, List.length_map]
  have h13 : sf 13 = 0 ∨ sf 13 = 1 := b6.imp (fun h => h.1) (fun h => h.1)
  have M := m_part (d := 1250) (z := z) (by decide) hz h13 c2 d2 hyl (fun x hx => (oky x hx).1)
  rcases b6 with ⟨b60, b61, -⟩ | ⟨b60, b61⟩
  · refine ⟨1001, 1, 6, _, by decide, by decide, by decide, wx_part (d2 := 1000) (by decide) h0L h0f (x_part (d := 1000) (by decide) hI (x_needSentence0 (d := 999) (by decide) hI b61)) (fun E L' f' h => Or.inl h.1), Pst.thr (E0 := eIS) hJ0 hB hQ0 (Or.inl rfl) (M.imp (fun r sf' sa' hR => ?_))⟩
    rw [rfC_0 b60] at hR
    exact hR.1 ne_IS
  · have h6 : 0 < c 6 ∧ c 6 < 100000 := ⟨b61, by omega⟩
    by_cases hr : 0 ≤ z ∧ z < (ys.length : Int)
    · skip
      obtain ⟨i, rfl⟩ := Int.eq_ofNat_of_zero_le hr.1
      have hi : i < pn.length := by omega
      obtain ⟨p, hp⟩ : ∃ p, pn[i]? = some p := ⟨pn[i], List.getElem?_eq_getElem hi⟩
      have hx : ys[i]? = some p.2 := by rw [← hpn, List.getElem?_map, hp]; rfl
      have hrf := rfC_z (z := (i : Int)) b60 hr
      refine ⟨1001, 9, 150, _, by decide, by decide, by decide, wn_part (d2 := 1000) (by decide) h0L h0f (p_part (d := 1000) (by decide) hI h6 (by omega) hp) (fun r L' f' h => ?_), Pst.nrm (w := b2i (canP pn.length p.2)) hI.1.2.1 hB (b2i_01 _) (fun r L' f1 h => ?_)⟩
      · obtain ⟨c', hJ', hr', h7, hcj, hF⟩ := h
        exact ⟨⟨_, b2i_01 _, hr'⟩, (hB.fm hI.1.2.1 hF).l35 hJ'.mem⟩
      · obtain ⟨c', hJ', hr', h7, hcj, hF⟩ := h
        rw [hpo, hpn] at hJ'
        refine ⟨hr', hF, c', a, _, _, n, hJ', M.imp (fun r sf' sa' hR => ?_)⟩
        obtain ⟨k1, k2, k3, k4⟩ := hR.2 hrf p.2 (by rw [Int.toNat_natCast]; exact hx)
        rw [Int.toNat_natCast] at k3
        rw [← hnl] at k1 k2 k3
        have key : sf' 0 = 0 ∧ sf' 12 = sf 12 + b2i (canP pn.length p.2) ∧ (sf' 9 = sf 9 ∧ sf' 11 = sf 11 ∧ sf' 13 = sf 13 ∧ sf' 21 = sf 21 ∧ sf' 25 = sf 25) ∧ sf' 10 = ((if canP pn.length p.2 then prt ys i p.2 else ys).length : Int) ∧ RY (if canP pn.length p.2 then prt ys i p.2 else ys) := by
          rw [k2]
          cases hc : canP pn.length p.2
          · exact ⟨rfl, (by show sf 12 = sf 12 + 0; omega), ⟨rfl, rfl, rfl, rfl, rfl⟩, c2, e2⟩
          · refine ⟨rfl, rfl, ⟨rfl, rfl, rfl, rfl, rfl⟩, ?_, e2.part hx (by rw [← hnl]; exact hc)⟩
            have := prt_len hx
            show ((pn.length + p.2.1.1.length - 1 : Nat) : Int) = ((prt ys i p.2).length : Int)
            omega
        obtain ⟨q1, q2, q3, q4, q5⟩ := key
        exact ⟨k1, q1, hQ0.turn b60 okx h7 ⟨hcj 5 (by decide) (by decide), hcj 6 (by decide) (by decide), hcj 11 (by decide) (by decide)⟩ q2 q3 q4 k3 (k4.Q.wide (by decide) (by decide)) q5⟩
    · refine ⟨1001, 1, 6, _, by decide, by decide, by decide, wx_part (d2 := 1000) (by decide) h0L h0f (x_part (d := 1000) (by decide) hI (x_needSentence (d := 999) (by decide) hI h6 (by omega) hz (by omega))) (fun E L' f' h => Or.inr h.1), Pst.thr (E0 := eIO) hJ0 hB hQ0 (Or.inl rfl) (M.imp (fun r sf' sa' hR => ?_))⟩
      rw [rfC_2 b60 hr] at hR
      exact hR.1 ne_IO
theorem pr_turn (ht : t ≤ 512) (hz : i3 z) (h : RI t L f) : Prs (fun d2 mc2 ms2 P => AW yL_turn cL_turn 4 (some .int) [(0, 16, 19, 19), (0, 16, 22, 21)] d2 mc2 ms2 [.ref 0, .int (iI z), .ref 35] L f P) (Pst t yX9_turn cX9_turn 2 (some .boolean) [.int (iI z)] B01) := by
  obtain ⟨c, a, sf, sa, xs, ys, n, hJ, hB, hQ⟩ := h
  have hJ0 := hJ
  obtain ⟨okx, oky⟩ := hJ0.ok
  obtain ⟨e4, e13, e15, po, pn, hI, hpo, hpn⟩ := hJ
  have hQ0 := hQ
  obtain ⟨⟨⟨a1, a2, a3⟩, a4, a5⟩, ⟨b1, b2, b3, b4, b5⟩, b6, ⟨c1, c2⟩, ⟨d1, d2⟩, e1, e2⟩ := hQ
  obtain ⟨h0L, h0f⟩ := hI.o0
  have hxl := e1.1
  have hyl := e2.1
  have hol : po.length = xs.length := by rw [← hpo, List.length_map]
  have hnl : pn.length = ys.length := by rw [← hpn, List.length_map]
  have h13 : sf 13 = 0 ∨ sf 13 = 1 := b6.imp (fun h => h.1) (fun h => h.1)
  have M := m_turn (d := 1250) (z := z) (by decide) hz h13 c2 d2 hyl (fun x hx => (oky x hx).1)
  rcases b6 with ⟨b60, b61, -⟩ | ⟨b60, b61⟩
  · refine ⟨1001, 1, 6, _, by decide, by decide, by decide, wx_turn (d2 := 1000) (by decide) h0L h0f (x_turn (d := 1000) (by decide) hI (x_needSentence0 (d := 999) (by decide) hI b61)) (fun E L' f' h => Or.inl h.1), Pst.thr (E0 := eIS) hJ0 hB hQ0 (Or.inl rfl) (M.imp (fun r sf' sa' hR => ?_))⟩
    rw [rfC_0 b60] at hR
    exact hR.1 ne_IS
  · have h6 : 0 < c 6 ∧ c 6 < 100000 := ⟨b61, by omega⟩
    by_cases hr : 0 ≤ z ∧ z < (ys.length : Int)
    · skip
      obtain ⟨i, rfl⟩ := Int.eq_ofNat_of_zero_le hr.1
      have hi : i < pn.length := by omega
      obtain ⟨p, hp⟩ : ∃ p, pn[i]? = some p := ⟨pn[i], List.getElem?_eq_getElem hi⟩
      have hx : ys[i]? = some p.2 := by rw [← hpn, List.getElem?_map, hp]; rfl
      have hrf := rfC_z (z := (i : Int)) b60 hr
      refine ⟨1001, 1, 7, _, by decide, by decide, by decide, wn_turn (d2 := 1000) (by decide) h0L h0f (p_turn (d := 1000) (by decide) hI h6 (by omega) hp) (fun r L' f' h => ?_), Pst.nrm (w := b2i (canT p.2)) hI.1.2.1 hB (b2i_01 _) (fun r L' f1 h => ?_)⟩
      · obtain ⟨c', hJ', hr', h7, hcj, hF⟩ := h
        exact ⟨⟨_, b2i_01 _, hr'⟩, (hB.fm hI.1.2.1 hF).l35 hJ'.mem⟩
      · obtain ⟨c', hJ', hr', h7, hcj, hF⟩ := h
        rw [hpo, hpn] at hJ'
        refine ⟨hr', hF, c', a, _, _, n, hJ', M.imp (fun r sf' sa' hR => ?_)⟩
        obtain ⟨k1, k2, k3, k4⟩ := hR.2 hrf p.2 (by rw [Int.toNat_natCast]; exact hx)
        rw [Int.toNat_natCast] at k3
        have key : sf' 0 = 0 ∧ sf' 12 = sf 12 + b2i (canT p.2) ∧ (sf' 9 = sf 9 ∧ sf' 11 = sf 11 ∧ sf' 13 = sf 13 ∧ sf' 21 = sf 21 ∧ sf' 25 = sf 25) ∧ sf' 10 = ((if canT p.2 then ys.set i (trn p.2) else ys).length : Int) ∧ RY (if canT p.2 then ys.set i (trn p.2) else ys) := by
          rw [k2]
          cases hc : canT p.2
          · exact ⟨rfl, (by show sf 12 = sf 12 + 0; omega), ⟨rfl, rfl, rfl, rfl, rfl⟩, c2, e2⟩
          · refine ⟨rfl, rfl, ⟨rfl, rfl, rfl, rfl, rfl⟩, ?_, e2.turn hx⟩
            show sf 10 = ((ys.set i (trn p.2)).length : Int)
            rw [List.length_set]
            exact c2
        obtain ⟨q1, q2, q3, q4, q5⟩ := key
        exact ⟨k1, q1, hQ0.turn b60 okx h7 ⟨hcj 5 (by decide) (by decide), hcj 6 (by decide) (by decide), hcj 11 (by decide) (by decide)⟩ q2 q3 q4 k3 (k4.Q.wide (by decide) (by decide)) q5⟩
    · refine ⟨1001, 1, 6, _, by decide, by decide, by decide, wx_turn (d2 := 1000) (by decide) h0L h0f (x_turn (d := 1000) (by decide) hI (x_needSentence (d := 999) (by decide) hI h6 (by omega) hz (by omega))) (fun E L' f' h => Or.inr h.1), Pst.thr (E0 := eIO) hJ0 hB hQ0 (Or.inl rfl) (M.imp (fun r sf' sa' hR => ?_))⟩
      rw [rfC_2 b60 hr] at hR
      exact hR.1 ne_IO
theorem pr_ease (ht : t ≤ 512) (hz : i3 z) (h : RI t L f) : Prs (fun d2 mc2 ms2 P => AW yL_ease cL_ease 4 (some .int) [(0, 16, 19, 19), (0, 16, 22, 21)] d2 mc2 ms2 [.ref 0, .int (iI z), .ref 35] L f P) (Pst t yX9_ease cX9_ease 2 (some .boolean) [.int (iI z)] B01) := by
  obtain ⟨c, a, sf, sa, xs, ys, n, hJ, hB, hQ⟩ := h
  have hJ0 := hJ
  obtain ⟨okx, oky⟩ := hJ0.ok
  obtain ⟨e4, e13, e15, po, pn, hI, hpo, hpn⟩ := hJ
  have hQ0 := hQ
  obtain ⟨⟨⟨a1, a2, a3⟩, a4, a5⟩, ⟨b1, b2, b3, b4, b5⟩, b6, ⟨c1, c2⟩, ⟨d1, d2⟩, e1, e2⟩ := hQ
  obtain ⟨h0L, h0f⟩ := hI.o0
  have hxl := e1.1
  have hyl := e2.1
  have hol : po.length = xs.length := by rw [← hpo, List.length_map]
  have hnl : pn.length = ys.length := by rw [← hpn, List.length_map]
  have h13 : sf 13 = 0 ∨ sf 13 = 1 := b6.imp (fun h => h.1) (fun h => h.1)
  have M := m_ease (d := 1250) (z := z) (by decide) hz h13 c2 d2 hyl (fun x hx => (oky x hx).1) (fun x hx => by have := (ezS_le (oky x hx)).2.2.2; have := (e2.2.1 x hx).2; omega)
  rcases b6 with ⟨b60, b61, -⟩ | ⟨b60, b61⟩
  · refine ⟨1001, 1, 6, _, by decide, by decide, by decide, wx_ease (d2 := 1000) (by decide) h0L h0f (x_ease (d := 1000) (by decide) hI (x_needSentence0 (d := 999) (by decide) hI b61)) (fun E L' f' h => Or.inl h.1), Pst.thr (E0 := eIS) hJ0 hB hQ0 (Or.inl rfl) (M.imp (fun r sf' sa' hR => ?_))⟩
    rw [rfC_0 b60] at hR
    exact hR.1 ne_IS
  · have h6 : 0 < c 6 ∧ c 6 < 100000 := ⟨b61, by omega⟩
    by_cases hr : 0 ≤ z ∧ z < (ys.length : Int)
    · skip
      obtain ⟨i, rfl⟩ := Int.eq_ofNat_of_zero_le hr.1
      have hi : i < pn.length := by omega
      obtain ⟨p, hp⟩ : ∃ p, pn[i]? = some p := ⟨pn[i], List.getElem?_eq_getElem hi⟩
      have hx : ys[i]? = some p.2 := by rw [← hpn, List.getElem?_map, hp]; rfl
      have hrf := rfC_z (z := (i : Int)) b60 hr
      have hk := kc_ez (oky p.2 (List.mem_of_getElem? hx))
      have hs := e2.2.1 p.2 (List.mem_of_getElem? hx)
      have hcl := (ezS_le (oky p.2 (List.mem_of_getElem? hx))).2.2.2
      refine ⟨1001, _, _, _, by decide, ?_, ?_, wn_ease (d2 := 1000) (by decide) h0L h0f (p_ease (d := 1000) (N := 80) (by decide) (by decide) hI h6 (by omega) hp (hk.2.2 hs.1) (by omega)) (fun r L' f' h => ?_), Pst.nrm (w := b2i (canE p.2)) hI.1.2.1 hB (b2i_01 _) (fun r L' f1 h => ?_)⟩
      · show kc (ezT p.2.2.2.1 p.2.2.2.2) + 7 ≤ 1173
        omega
      · show ks 80 (ezT p.2.2.2.1 p.2.2.2.2) + 80 + 24 ≤ 14047
        omega
      · obtain ⟨c', hJ', hr', h7, hcj, hF⟩ := h
        exact ⟨⟨_, b2i_01 _, hr'⟩, (hB.fm hI.1.2.1 hF).l35 hJ'.mem⟩
      · obtain ⟨c', hJ', hr', h7, hcj, hF⟩ := h
        rw [hpo, hpn] at hJ'
        refine ⟨hr', hF, c', a, _, _, n, hJ', M.imp (fun r sf' sa' hR => ?_)⟩
        obtain ⟨k1, k2, k3, k4⟩ := hR.2 hrf p.2 (by rw [Int.toNat_natCast]; exact hx)
        rw [Int.toNat_natCast] at k3
        have k3 : SensAt sa' 24 (if canE p.2 then ys.set i (ezS p.2) else ys) := by
          cases hc : canE p.2
          · rw [ezS_idO (oky p.2 (List.mem_of_getElem? hx)).2.1 hc, set_self hx] at k3
            exact k3
          · exact k3
        have hsj := k2.q.sj
        have hs0 := k2.q.z0
        have key : sf' 0 = 0 ∧ sf' 12 = sf 12 + b2i (canE p.2) ∧ (sf' 9 = sf 9 ∧ sf' 11 = sf 11 ∧ sf' 13 = sf 13 ∧ sf' 21 = sf 21 ∧ sf' 25 = sf 25) ∧ sf' 10 = ((if canE p.2 then ys.set i (ezS p.2) else ys).length : Int) ∧ RY (if canE p.2 then ys.set i (ezS p.2) else ys) := by
          obtain ⟨s1, s2, s3, s4, s5, s6, s7⟩ := hsj
          rw [s1, s2, s3, s4, s5, s6, s7, hs0]
          cases hc : canE p.2
          · exact ⟨rfl, (by show sf 12 = sf 12 + 0; omega), ⟨rfl, rfl, rfl, rfl, rfl⟩, c2, e2⟩
          · refine ⟨rfl, rfl, ⟨rfl, rfl, rfl, rfl, rfl⟩, ?_, e2.ease hx (oky p.2 (List.mem_of_getElem? hx))⟩
            show sf 10 = ((ys.set i (ezS p.2)).length : Int)
            rw [List.length_set]
            exact c2
        obtain ⟨q1, q2, q3, q4, q5⟩ := key
        exact ⟨k1, q1, hQ0.turn b60 okx h7 ⟨hcj 5 (by decide) (by decide), hcj 6 (by decide) (by decide), hcj 11 (by decide) (by decide)⟩ q2 q3 q4 k3 (k4.Q.wide (by decide) (by decide)) q5⟩
    · refine ⟨1001, 1, 6, _, by decide, by decide, by decide, wx_ease (d2 := 1000) (by decide) h0L h0f (x_ease (d := 1000) (by decide) hI (x_needSentence (d := 999) (by decide) hI h6 (by omega) hz (by omega))) (fun E L' f' h => Or.inr h.1), Pst.thr (E0 := eIO) hJ0 hB hQ0 (Or.inl rfl) (M.imp (fun r sf' sa' hR => ?_))⟩
      rw [rfC_2 b60 hr] at hR
      exact hR.1 ne_IO
theorem pr_melt (ht : t ≤ 512) (hz : i3 z) (h : RI t L f) : Prs (fun d2 mc2 ms2 P => AW yL_melt cL_melt 4 (some .int) [(0, 16, 19, 19), (0, 16, 22, 21)] d2 mc2 ms2 [.ref 0, .int (iI z), .ref 35] L f P) (Pst t yX9_melt cX9_melt 6 (some .boolean) [.int (iI z)] B01) := by
  obtain ⟨c, a, sf, sa, xs, ys, n, hJ, hB, hQ⟩ := h
  have hJ0 := hJ
  obtain ⟨okx, oky⟩ := hJ0.ok
  obtain ⟨e4, e13, e15, po, pn, hI, hpo, hpn⟩ := hJ
  have hQ0 := hQ
  obtain ⟨⟨⟨a1, a2, a3⟩, a4, a5⟩, ⟨b1, b2, b3, b4, b5⟩, b6, ⟨c1, c2⟩, ⟨d1, d2⟩, e1, e2⟩ := hQ
  obtain ⟨h0L, h0f⟩ := hI.o0
  have hxl := e1.1
  have hyl := e2.1
  have hol : po.length = xs.length := by rw [← hpo, List.length_map]
  have hnl : pn.length = ys.length := by rw [← hpn, List.length_map]
  have h13 : sf 13 = 0 ∨ sf 13 = 1 := b6.imp (fun h => h.1) (fun h => h.1)
  have M := m_melt (d := 1250) (z := z) (by decide) hz h13 c2 d2 hyl (fun x hx => (oky x hx).1)
  rcases b6 with ⟨b60, b61, -⟩ | ⟨b60, b61⟩
  · refine ⟨1001, 1, 6, _, by decide, by decide, by decide, wx_melt (d2 := 1000) (by decide) h0L h0f (x_melt (d := 1000) (by decide) hI (x_needSentence0 (d := 999) (by decide) hI b61)) (fun E L' f' h => Or.inl h.1), Pst.thr (E0 := eIS) hJ0 hB hQ0 (Or.inl rfl) (M.imp (fun r sf' sa' hR => ?_))⟩
    rw [rfC_0 b60] at hR
    exact hR.1 ne_IS
  · have h6 : 0 < c 6 ∧ c 6 < 100000 := ⟨b61, by omega⟩
    by_cases hr : 0 ≤ z ∧ z < (ys.length : Int)
    · skip
      obtain ⟨i, rfl⟩ := Int.eq_ofNat_of_zero_le hr.1
      have hi : i < pn.length := by omega
      obtain ⟨p, hp⟩ : ∃ p, pn[i]? = some p := ⟨pn[i], List.getElem?_eq_getElem hi⟩
      have hx : ys[i]? = some p.2 := by rw [← hpn, List.getElem?_map, hp]; rfl
      have hrf := rfC_z (z := (i : Int)) b60 hr
      by_cases hla : i + 1 = pn.length
      · refine ⟨1001, 0, 0, _, by decide, by decide, by decide, wn_melt (d2 := 1000) (by decide) h0L h0f (p_meltL (d := 1000) (i := i) (by decide) hI h6 (by omega) hla) (fun r L' f' h => ?_), Pst.nrm (w := 0) hI.1.2.1 hB (Or.inl rfl) (fun r L' f1 h => ?_)⟩
        · obtain ⟨rfl, rfl, rfl⟩ := h
          exact ⟨⟨0, Or.inl rfl, rfl⟩, hB.l35 hI.1.2.1⟩
        · obtain ⟨rfl, rfl, rfl⟩ := h
          refine ⟨rfl, FM.rf, c, a, _, _, n, hJ0, M.imp (fun r sf' sa' hR => ?_)⟩
          obtain ⟨k1, rfl, rfl⟩ := hR.2.1 hrf (by omega)
          exact ⟨k1, rfl, hQ0.keep (Sj.up0 _) Go.rf⟩
      · obtain ⟨p2, hp2⟩ : ∃ p, pn[i + 1]? = some p := ⟨pn[i + 1], List.getElem?_eq_getElem (by omega)⟩
        have hx2 : ys[i + 1]? = some p2.2 := by rw [← hpn, List.getElem?_map, hp2]; rfl
        refine ⟨1001, 2, 13, _, by decide, by decide, by decide, wn_melt (d2 := 1000) (by decide) h0L h0f (p_melt (d := 1000) (by decide) hI h6 (by omega) hp hp2) (fun r L' f' h => ?_), Pst.nrm (w := b2i (canM p.2 p2.2)) hI.1.2.1 hB (b2i_01 _) (fun r L' f1 h => ?_)⟩
        · obtain ⟨c', hJ', hr', h7, hcj, hF⟩ := h
          exact ⟨⟨_, b2i_01 _, hr'⟩, (hB.fm hI.1.2.1 hF).l35 hJ'.mem⟩
        · obtain ⟨c', hJ', hr', h7, hcj, hF⟩ := h
          rw [hpo, hpn] at hJ'
          refine ⟨hr', hF, c', a, _, _, n, hJ', M.imp (fun r sf' sa' hR => ?_)⟩
          obtain ⟨k1, k2, k3, k4⟩ := hR.2.2 hrf p.2 p2.2 (by rw [Int.toNat_natCast]; exact hx) (by rw [Int.toNat_natCast]; exact hx2)
          rw [Int.toNat_natCast] at k3
          have key : sf' 0 = 0 ∧ sf' 12 = sf 12 + b2i (canM p.2 p2.2) ∧ (sf' 9 = sf 9 ∧ sf' 11 = sf 11 ∧ sf' 13 = sf 13 ∧ sf' 21 = sf 21 ∧ sf' 25 = sf 25) ∧ sf' 10 = ((if canM p.2 p2.2 then mel ys i p.2 p2.2 else ys).length : Int) ∧ RY (if canM p.2 p2.2 then mel ys i p.2 p2.2 else ys) := by
            rw [k2]
            cases hc : canM p.2 p2.2
            · exact ⟨rfl, (by show sf 12 = sf 12 + 0; omega), ⟨rfl, rfl, rfl, rfl, rfl⟩, c2, e2⟩
            · refine ⟨rfl, rfl, ⟨rfl, rfl, rfl, rfl, rfl⟩, ?_, e2.melt hx hx2 hc⟩
              have := mel_len (x := p.2) hx2
              show ((ys.length - 1 : Nat) : Int) = ((mel ys i p.2 p2.2).length : Int)
              omega
          obtain ⟨q1, q2, q3, q4, q5⟩ := key
          exact ⟨k1, q1, hQ0.turn b60 okx h7 ⟨hcj 5 (by decide) (by decide), hcj 6 (by decide) (by decide), hcj 11 (by decide) (by decide)⟩ q2 q3 q4 k3 (k4.Q.wide (by decide) (by decide)) q5⟩
    · refine ⟨1001, 1, 6, _, by decide, by decide, by decide, wx_melt (d2 := 1000) (by decide) h0L h0f (x_melt (d := 1000) (by decide) hI (x_needSentence (d := 999) (by decide) hI h6 (by omega) hz (by omega))) (fun E L' f' h => Or.inr h.1), Pst.thr (E0 := eIO) hJ0 hB hQ0 (Or.inl rfl) (M.imp (fun r sf' sa' hR => ?_))⟩
      rw [rfC_2 b60 hr] at hR
      exact hR.1 ne_IO
theorem pr_plainest (ht : t ≤ 512) (h : RI t L f) : Prs (fun d2 mc2 ms2 P => AW yL_plainest cL_plainest 3 (some .int) [(0, 8, 11, 19)] d2 mc2 ms2 [.ref 0, .ref 35] L f P) (Pst t yX9_plainest cX9_plainest 6 (some .int) [] Bny) := by
  obtain ⟨c, a, sf, sa, xs, ys, n, hJ, hB, hQ⟩ := h
  have hJ0 := hJ
  obtain ⟨okx, oky⟩ := hJ0.ok
  obtain ⟨e4, e13, e15, po, pn, hI, hpo, hpn⟩ := hJ
  have hQ0 := hQ
  obtain ⟨⟨⟨a1, a2, a3⟩, a4, a5⟩, ⟨b1, b2, b3, b4, b5⟩, b6, ⟨c1, c2⟩, ⟨d1, d2⟩, e1, e2⟩ := hQ
  obtain ⟨h0L, h0f⟩ := hI.o0
  have hxl := e1.1
  have hyl := e2.1
  have hol : po.length = xs.length := by rw [← hpo, List.length_map]
  have hnl : pn.length = ys.length := by rw [← hpn, List.length_map]
  have h13 : sf 13 = 0 ∨ sf 13 = 1 := b6.imp (fun h => h.1) (fun h => h.1)
  have hez : ∀ x ∈ xs, (cdO (ezO x.2.2.1 x.2.2.2)).length ≤ 400 := fun x hx => by have := (ezS_le (okx x hx)).2.2.2; have := (e1.y.2.1 x hx).2; omega
  have M := m_plainest (d := 1250) (by decide) h13 c1 d1 hxl (fun x hx => (okx x hx).1) hez (fun x hx p q e hok c hc => by
    have h1 := (wyL_sz p q e (okx x hx)).1 c hc
    have h2 := wyL_ok (okx x hx).1 hok c hc
    have h3 := (e1.y.2.1 x hx).2
    have h4 : Ok1 c := wyL_T (okx x hx) hok c hc
    have h5 := snT_le false h4
    omega)
  rcases b6 with ⟨b60, b61, -⟩ | ⟨b60, b61⟩
  · refine ⟨1001, 1, 6, _, by decide, by decide, by decide, wx_plainest (d2 := 1000) (by decide) h0L h0f (x_plainest (d := 1000) (by decide) hI b61) (fun E L' f' h => h.1), Pst.thr (E0 := eIS) hJ0 hB hQ0 trivial (M.imp (fun r sf' sa' hR => ?_))⟩
    rw [exN_IS]
    exact hR.1 b60
  · have h6 : 0 < c 6 ∧ c 6 < 100000 := ⟨b61, by omega⟩
    have hcl := e1.cells okx
    refine ⟨1001, _, _, _, by decide, ?_, ?_, wn_plainest (d2 := 1000) (by decide) h0L h0f (p_plainest (d := 1000) (N := 80) (by decide) (by decide) hI h6 (by omega) (fun p hp => ?_) (fun p hp => ?_)) (fun r L' f' h => ?_), Pst.nrm (w := (csL (xs.flatMap plL) : Int)) hI.1.2.1 hB trivial (fun r L' f1 h => ?_)⟩
    · have e : (po.map (fun p => cE p.2)) = xs.map cE := by rw [← hpo, List.map_map]; rfl
      rw [e]
      omega
    · have e : (po.map (fun p => sE 80 p.2)) = xs.map (sE 80) := by rw [← hpo, List.map_map]; rfl
      rw [e]
      omega
    · have hm : p.2 ∈ xs := by rw [← hpo]; exact List.mem_map.mpr ⟨p, hp, rfl⟩
      exact (kc_ez (okx p.2 hm)).2.2 (e1.y.2.1 p.2 hm).1
    · have hm : p.2 ∈ xs := by rw [← hpo]; exact List.mem_map.mpr ⟨p, hp, rfl⟩
      exact hez p.2 hm
    · obtain ⟨hr', c', hJ', hcj, hF⟩ := h
      exact ⟨⟨_, hr'⟩, (hB.fm hI.1.2.1 hF).l35 hJ'.mem⟩
    · obtain ⟨hr', c', hJ', hcj, hF⟩ := h
      rw [hpo] at hr' hJ'
      refine ⟨hr', hF, c', a, _, _, n, hJ', M.imp (fun r sf' sa' hR => ?_)⟩
      obtain ⟨k1, k2, k3, k4⟩ := hR.2 b60
      obtain ⟨s1, s2, s3, s4, s5, s6, s7⟩ := k2.sj
      exact ⟨k1, k2.z0, hQ0.turn (k := 0) b60 okx (by have := hcj 7 (by decide); omega) ⟨hcj 5 (by decide), hcj 6 (by decide), hcj 11 (by decide)⟩ (by rw [s4]; show sf 12 = sf 12 + 0; omega) ⟨s1, s3, s5, s6, s7⟩ s2 k3 k4 (e1.plain okx)⟩
theorem pr_again (ht : t ≤ 512) (h : RI t L f) : Prs (fun d2 mc2 ms2 P => AW yL_again cL_again 2 (some .int) [(0, 4, 7, 19)] d2 mc2 ms2 [.ref 0] L f P) (Pag t yX9_again cX9_again 1 []) := by
  obtain ⟨c, a, sf, sa, xs, ys, n, hJ, hB, hQ⟩ := h
  have hJ0 := hJ
  obtain ⟨okx, oky⟩ := hJ0.ok
  obtain ⟨e4, e13, e15, po, pn, hI, hpo, hpn⟩ := hJ
  have hQ0 := hQ
  obtain ⟨⟨⟨a1, a2, a3⟩, a4, a5⟩, ⟨b1, b2, b3, b4, b5⟩, b6, ⟨c1, c2⟩, ⟨d1, d2⟩, e1, e2⟩ := hQ
  obtain ⟨h0L, h0f⟩ := hI.o0
  have hxl := e1.1
  have hyl := e2.1
  have hol : po.length = xs.length := by rw [← hpo, List.length_map]
  have hnl : pn.length = ys.length := by rw [← hpn, List.length_map]
  have h13 : sf 13 = 0 ∨ sf 13 = 1 := b6.imp (fun h => h.1) (fun h => h.1)
  have M := m_again (d := 1250) (by decide) h13 c1 hxl d1 (fun x hx => (okx x hx).1)
  rcases b6 with ⟨b60, b61, -⟩ | ⟨b60, b61⟩
  · refine ⟨1001, 1, 6, _, by decide, by decide, by decide, wx_again (d2 := 1000) (by decide) h0L h0f (x_again (d := 1000) (by decide) hI b61) (fun E L' f' h => h.1), Pag.thr (E0 := eIS) hJ0 hB hQ0 (M.imp (fun r sf' sa' hR => ?_))⟩
    rw [exN_IS]
    obtain ⟨k1, k2, k3, k4⟩ := hR
    rw [if_pos b60] at k2
    exact ⟨k1, k2, k3 b60⟩
  · have h6 : 0 < c 6 ∧ c 6 < 100000 := ⟨b61, by omega⟩
    refine ⟨1001, _, _, _, by decide, ?_, ?_, wn_again (d2 := 1000) (by decide) h0L h0f (p_again (d := 1000) (by decide) hI h6 (by omega)) (fun r L' f' h => h.1), fun r L' f' h => ?_⟩
    · omega
    · omega
    · obtain ⟨hr, -, c', hJ', hcj, hF⟩ := h
      refine Pag.nrm (Po := fun _ L2 f2 => L2 = L' ∧ f2 = f') hI.1.2.1 hB (fun L2 f2 h2 => ?_) _ _ _ ⟨hr, rfl, rfl⟩
      obtain ⟨rfl, rfl⟩ := h2
      rw [hpo] at hJ'
      refine ⟨hF, c', a, _, _, n, hJ', M.imp (fun r sf' sa' hR => ?_)⟩
      obtain ⟨k1, k2, k3, k4⟩ := hR
      rw [if_neg (by omega)] at k2
      obtain ⟨k5, k6⟩ := k4 b60
      subst k2
      exact ⟨k1, rfl, hQ0.turn (k := 0) b60 okx (by have := hcj 7 (by decide); omega) ⟨hcj 5 (by decide), hcj 6 (by decide), hcj 11 (by decide)⟩ (by show sf 12 = sf 12 + 0; omega) ⟨rfl, rfl, rfl, rfl, rfl⟩ rfl k5 (k6.Q.wide (by decide) (by decide)) e1.y⟩
theorem pr_cost (ht : t ≤ 512)  (h : RI t L f) : Prs (fun d2 mc2 ms2 P => AW yL_cost cL_cost 4 (some .int) [(0, 9, 12, 19)] d2 mc2 ms2 [.ref 0, .int (iI (b2i bo)), .ref 35] L f P) (Pst t yX9_cost cX9_cost 2 (some .int) [.int (iI (b2i bo))] Bny) := by
  obtain ⟨c, a, sf, sa, xs, ys, n, hJ, hB, hQ⟩ := h
  have hJ0 := hJ
  obtain ⟨okx, oky⟩ := hJ0.ok
  obtain ⟨e4, e13, e15, po, pn, hI, hpo, hpn⟩ := hJ
  have hQ0 := hQ
  obtain ⟨⟨⟨a1, a2, a3⟩, a4, a5⟩, ⟨b1, b2, b3, b4, b5⟩, b6, ⟨c1, c2⟩, ⟨d1, d2⟩, e1, e2⟩ := hQ
  obtain ⟨h0L, h0f⟩ := hI.o0
  have hxl := e1.1
  have hyl := e2.1
  have hol : po.length = xs.length := by rw [← hpo, List.length_map]
  have hnl : pn.length = ys.length := by rw [← hpn, List.length_map]
  have h13 : sf 13 = 0 ∨ sf 13 = 1 := b6.imp (fun h => h.1) (fun h => h.1)
  have oks : ∀ x ∈ xs, SOk x ∧ (snT false x).length + 4 ≤ 9000 := fun x hx => ⟨(okx x hx).1, by have := snT_le false (okx x hx); have := (e1.y.2.1 x hx).2; omega⟩
  have okt : ∀ x ∈ ys, SOk x ∧ (snT false x).length + 4 ≤ 9000 := fun x hx => ⟨(oky x hx).1, by have := snT_le false (oky x hx); have := (e2.2.1 x hx).2; omega⟩
  have M := m_cost (d := 1250) (bo := bo) (by decide) h13 c1 c2 d1 d2 hxl hyl oks okt
  rcases b6 with ⟨b60, b61, -⟩ | ⟨b60, b61⟩
  · refine ⟨1001, 1, 6, _, by decide, by decide, by decide, wx_cost (d2 := 1000) (by decide) h0L h0f (x_cost (d := 1000) (by decide) hI b61) (fun E L' f' h => h.1), Pst.thr (E0 := eIS) hJ0 hB hQ0 trivial (M.imp (fun r sf' sa' hR => ?_))⟩
    rw [exN_IS]
    exact hR.1 b60
  · have h6 : 0 < c 6 ∧ c 6 < 100000 := ⟨b61, by omega⟩
    refine ⟨1001, 0, 0, _, by decide, by decide, by decide, wn_cost (d2 := 1000) (by decide) h0L h0f (p_cost (d := 1000) (bo := bo) (by decide) hI h6 (by omega) (by omega)) (fun r L' f' h => ?_), Pst.nrm (w := (csL (if bo then xs else ys) : Int)) hI.1.2.1 hB trivial (fun r L' f1 h => ?_)⟩
    · obtain ⟨rfl, rfl, rfl⟩ := h
      exact ⟨⟨_, rfl⟩, hB.l35 hI.1.2.1⟩
    · obtain ⟨rfl, rfl, rfl⟩ := h
      refine ⟨?_, FM.rf, c, a, _, _, n, hJ0, M.imp (fun r sf' sa' hR => ?_)⟩
      · rw [← hpn]
        rw [← hpo]
        cases bo <;> rfl
      · obtain ⟨k1, k2, k3⟩ := hR.2 b60
        exact ⟨k1, k2.q.z0, hQ0.keep ((Sj.up0 0).tr k2.q.sj) k3⟩
theorem pr_ask (ht : t ≤ 512) (i1 : i3 z1) (i2 : i3 z2) (i4 : i3 z3) (h : RI t L f) : Prs (fun d2 mc2 ms2 P => AW yL_ask cL_ask 7 (some .int) [(0, 14, 17, 19)] d2 mc2 ms2 [.ref 0, .int (iI (b2i bo)), .int (iI z1), .int (iI z2), .int (iI z3), .ref 35] L f P) (Pst t yX9_ask cX9_ask 8 (some .int) [.int (iI (b2i bo)), .int (iI z1), .int (iI z2), .int (iI z3)] Bny) := by
  obtain ⟨c, a, sf, sa, xs, ys, n, hJ, hB, hQ⟩ := h
  have hJ0 := hJ
  obtain ⟨okx, oky⟩ := hJ0.ok
  obtain ⟨e4, e13, e15, po, pn, hI, hpo, hpn⟩ := hJ
  have hQ0 := hQ
  obtain ⟨⟨⟨a1, a2, a3⟩, a4, a5⟩, ⟨b1, b2, b3, b4, b5⟩, b6, ⟨c1, c2⟩, ⟨d1, d2⟩, e1, e2⟩ := hQ
  obtain ⟨h0L, h0f⟩ := hI.o0
  have hxl := e1.1
  have hyl := e2.1
  have hol : po.length = xs.length := by rw [← hpo, List.length_map]
  have hnl : pn.length = ys.length := by rw [← hpn, List.length_map]
  have h13 : sf 13 = 0 ∨ sf 13 = 1 := b6.imp (fun h => h.1) (fun h => h.1)
  skip
  have M := m_ask (d := 1250) (bo := bo) (by decide) i1 i2 i4 h13 c1 c2 d1 d2 hxl hyl (fun x hx => (okx x hx).1) (fun x hx => (oky x hx).1)
  rcases b6 with ⟨b60, b61, -⟩ | ⟨b60, b61⟩
  · refine ⟨1001, 1, 6, _, by decide, by decide, by decide, wx_ask (d2 := 1000) (by decide) h0L h0f (x_ask (d := 1000) (by decide) hI b61) (fun E L' f' h => h.1), Pst.thr (E0 := eIS) hJ0 hB hQ0 trivial (M.imp (fun r sf' sa' hR => ?_))⟩
    rw [exN_IS]
    exact hR.1 b60
  · have h6 : 0 < c 6 ∧ c 6 < 100000 := ⟨b61, by omega⟩
    refine ⟨1001, 0, 0, _, by decide, by decide, by decide, wn_ask (d2 := 1000) (by decide) h0L h0f (p_ask (d := 1000) (bo := bo) (by decide) i1 i2 i4 hI h6 (by omega) (by omega)) (fun r L' f' h => ?_), Pst.nrm (w := ((if bo then xs else ys).foldl (akS z1 z2 z3) 0)) hI.1.2.1 hB trivial (fun r L' f1 h => ?_)⟩
    · obtain ⟨rfl, rfl, rfl⟩ := h
      exact ⟨⟨_, rfl⟩, hB.l35 hI.1.2.1⟩
    · obtain ⟨rfl, rfl, rfl⟩ := h
      refine ⟨?_, FM.rf, c, a, _, _, n, hJ0, M.imp (fun r sf' sa' hR => ?_)⟩
      · rw [← hpn]
        rw [← hpo]
        cases bo <;> rfl
      · obtain ⟨k1, k2, k3⟩ := hR.2 b60
        exact ⟨k1, k2.q.z0, hQ0.keep ((Sj.up0 0).tr k2.q.sj) (by rw [k3]; exact Go.rf)⟩
theorem pr_days (ht : t ≤ 512) (i1 : i3 z1) (i2 : i3 z2) (i4 : i3 z3) (h : RI t L f) : Prs (fun d2 mc2 ms2 P => AW yL_days cL_days 6 (some .int) [(0, 12, 15, 19)] d2 mc2 ms2 [.ref 0, .int (iI z1), .int (iI z2), .int (iI z3), .ref 35] L f P) (Pst t yX9_days cX9_days 6 (some .int) [.int (iI z1), .int (iI z2), .int (iI z3)] Bny) := by
  obtain ⟨c, a, sf, sa, xs, ys, n, hJ, hB, hQ⟩ := h
  have hJ0 := hJ
  obtain ⟨okx, oky⟩ := hJ0.ok
  obtain ⟨e4, e13, e15, po, pn, hI, hpo, hpn⟩ := hJ
  have hQ0 := hQ
  obtain ⟨⟨⟨a1, a2, a3⟩, a4, a5⟩, ⟨b1, b2, b3, b4, b5⟩, b6, ⟨c1, c2⟩, ⟨d1, d2⟩, e1, e2⟩ := hQ
  obtain ⟨h0L, h0f⟩ := hI.o0
  have hxl := e1.1
  have hyl := e2.1
  have hol : po.length = xs.length := by rw [← hpo, List.length_map]
  have hnl : pn.length = ys.length := by rw [← hpn, List.length_map]
  have h13 : sf 13 = 0 ∨ sf 13 = 1 := b6.imp (fun h => h.1) (fun h => h.1)
  skip
  have M := m_days (d := 1250) (by decide) i1 i2 i4 h13 c2 d2 hyl (fun x hx => (oky x hx).1)
  rcases b6 with ⟨b60, b61, -⟩ | ⟨b60, b61⟩
  · refine ⟨1001, 1, 6, _, by decide, by decide, by decide, wx_days (d2 := 1000) (by decide) h0L h0f (x_days (d := 1000) (by decide) hI b61) (fun E L' f' h => h.1), Pst.thr (E0 := eIS) hJ0 hB hQ0 trivial (M.imp (fun r sf' sa' hR => ?_))⟩
    rw [exN_IS]
    exact hR.1 b60
  · have h6 : 0 < c 6 ∧ c 6 < 100000 := ⟨b61, by omega⟩
    refine ⟨1001, 0, 0, _, by decide, by decide, by decide, wn_days (d2 := 1000) (by decide) h0L h0f (p_days (d := 1000) (by decide) i1 i2 i4 hI h6 (by omega)) (fun r L' f' h => ?_), Pst.nrm (w := (ys.foldl (dyS z1 z2 z3) (-1))) hI.1.2.1 hB trivial (fun r L' f1 h => ?_)⟩
    · obtain ⟨rfl, rfl, rfl⟩ := h
      exact ⟨⟨_, rfl⟩, hB.l35 hI.1.2.1⟩
    · obtain ⟨rfl, rfl, rfl⟩ := h
      refine ⟨?_, FM.rf, c, a, _, _, n, hJ0, M.imp (fun r sf' sa' hR => ?_)⟩
      · rw [← hpn]
        skip
      · obtain ⟨k1, k2, k3⟩ := hR.2 b60
        exact ⟨k1, k2.q.z0, hQ0.keep ((Sj.up0 0).tr k2.q.sj) (by rw [k3]; exact Go.rf)⟩
theorem pr_same (ht : t ≤ 512) (h : RI t L f) : Prs (fun d2 mc2 ms2 P => AW yL_same cL_same 3 (some .int) [(0, 15, 18, 19)] d2 mc2 ms2 [.ref 0, .ref 35] L f P) (Pst t yX9_same cX9_same 1 (some .boolean) [] B01) := by
  obtain ⟨c, a, sf, sa, xs, ys, n, hJ, hB, hQ⟩ := h
  have hJ0 := hJ
  obtain ⟨okx, oky⟩ := hJ0.ok
  obtain ⟨e4, e13, e15, po, pn, hI, hpo, hpn⟩ := hJ
  have hQ0 := hQ
  obtain ⟨⟨⟨a1, a2, a3⟩, a4, a5⟩, ⟨b1, b2, b3, b4, b5⟩, b6, ⟨c1, c2⟩, ⟨d1, d2⟩, e1, e2⟩ := hQ
  obtain ⟨h0L, h0f⟩ := hI.o0
  have hxl := e1.1
  have hyl := e2.1
  have hol : po.length = xs.length := by rw [← hpo, List.length_map]
  have hnl : pn.length = ys.length := by rw [← hpn, List.length_map]
  have h13 : sf 13 = 0 ∨ sf 13 = 1 := b6.imp (fun h => h.1) (fun h => h.1)
  have M := m_same (d := 1250) (by decide) h13 c1 c2 d1 d2 hxl hyl (fun x hx => (okx x hx).1) (fun x hx => (oky x hx).1)
  rcases b6 with ⟨b60, b61, -⟩ | ⟨b60, b61⟩
  · refine ⟨1001, 1, 6, _, by decide, by decide, by decide, wx_same (d2 := 1000) (by decide) h0L h0f (x_same (d := 1000) (by decide) hI b61) (fun E L' f' h => h.1), Pst.thr (E0 := eIS) hJ0 hB hQ0 (Or.inl rfl) (M.imp (fun r sf' sa' hR => ?_))⟩
    rw [exN_IS]
    exact hR.1 b60
  · have h6 : 0 < c 6 ∧ c 6 < 100000 := ⟨b61, by omega⟩
    have hdec : ∃ D : Bool, D = true ↔ wiN xs ys ∧ wiN ys xs := by
      by_cases hw : wiN xs ys ∧ wiN ys xs
      · exact ⟨true, ⟨fun _ => hw, fun _ => rfl⟩⟩
      · exact ⟨false, ⟨fun h => Bool.noConfusion h, fun h => absurd h hw⟩⟩
    obtain ⟨D, hD⟩ := hdec
    have heq : ∀ b : Bool, (b = true ↔ wiN xs ys ∧ wiN ys xs) → b = D := fun b hb => by
      have := hb.trans hD.symm
      cases b <;> cases D <;> simp_all
    refine ⟨1001, 0, 0, _, by decide, by decide, by decide, wn_same (d2 := 1000) (by decide) h0L h0f (p_same (d := 1000) (by decide) hI h6 (by omega) (by omega)) (fun r L' f' h => ?_), Pst.nrm (w := b2i D) hI.1.2.1 hB (b2i_01 _) (fun r L' f1 h => ?_)⟩
    · obtain ⟨⟨b, rfl, -⟩, rfl, rfl⟩ := h
      exact ⟨⟨_, b2i_01 _, rfl⟩, hB.l35 hI.1.2.1⟩
    · obtain ⟨⟨b, rfl, hb⟩, rfl, rfl⟩ := h
      rw [hpo, hpn] at hb
      obtain rfl := heq b hb
      refine ⟨rfl, FM.rf, c, a, _, _, n, hJ0, M.imp (fun r sf' sa' hR => ?_)⟩
      obtain ⟨⟨b2, k1, hb2⟩, k2, k3⟩ := hR.2 b60
      obtain rfl := heq b2 hb2
      exact ⟨k1, k2.q.z0, hQ0.keep ((Sj.up0 0).tr k2.q.sj) (by rw [k3]; exact Go.rf)⟩
theorem pr_look (ht : t ≤ 512) (hz : i3 z) (hw : i3 z1) (h : RI t L f) : Prs (fun d2 mc2 ms2 P => AW yL_look cL_look 5 (some .int) [(0, 10, 13, 19), (0, 10, 17, 21), (0, 10, 21, 46)] d2 mc2 ms2 [.ref 0, .int (iI z), .int (iI z1), .ref 35] L f P) (Pst t yX9_look cX9_look 4 (some .int) [.int (iI z), .int (iI z1)] Bny) := by
  obtain ⟨c, a, sf, sa, xs, ys, n, hJ, hB, hQ⟩ := h
  have hJ0 := hJ
  obtain ⟨okx, oky⟩ := hJ0.ok
  obtain ⟨e4, e13, e15, po, pn, hI, hpo, hpn⟩ := hJ
  have hQ0 := hQ
  obtain ⟨⟨⟨a1, a2, a3⟩, a4, a5⟩, ⟨b1, b2, b3, b4, b5⟩, b6, ⟨c1, c2⟩, ⟨d1, d2⟩, e1, e2⟩ := hQ
  obtain ⟨h0L, h0f⟩ := hI.o0
  have hxl := e1.1
  have hyl := e2.1
  have hol : po.length = xs.length := by rw [← hpo, List.length_map]
  have hnl : pn.length = ys.length := by rw [← hpn, List.length_map]
  have h13 : sf 13 = 0 ∨ sf 13 = 1 := b6.imp (fun h => h.1) (fun h => h.1)
  have okt : ∀ x ∈ ys, SOk x ∧ (snT false x).length + 4 ≤ 9000 := fun x hx => ⟨(oky x hx).1, by have := snT_le false (oky x hx); have := (e2.2.1 x hx).2; omega⟩
  have M := m_look (d := 1250) (z := z) (w := z1) (by decide) hz hw h13 c2 d2 hyl okt
  rcases b6 with ⟨b60, b61, -⟩ | ⟨b60, b61⟩
  · refine ⟨1001, 1, 6, _, by decide, by decide, by decide, wx_look (d2 := 1000) (by decide) h0L h0f (x_look (d := 1000) (by decide) hI (x_needSentence0 (d := 999) (by decide) hI b61)) (fun E L' f' h => Or.inl h.1), Pst.thr (E0 := eIS) hJ0 hB hQ0 trivial (M.imp (fun r sf' sa' hR => ?_))⟩
    rw [rfC_0 b60] at hR
    exact hR.1 ne_IS
  · have h6 : 0 < c 6 ∧ c 6 < 100000 := ⟨b61, by omega⟩
    by_cases hr : 0 ≤ z ∧ z < (ys.length : Int)
    · skip
      obtain ⟨i, rfl⟩ := Int.eq_ofNat_of_zero_le hr.1
      have hi : i < pn.length := by omega
      obtain ⟨p, hp⟩ : ∃ p, pn[i]? = some p := ⟨pn[i], List.getElem?_eq_getElem hi⟩
      have hx : ys[i]? = some p.2 := by rw [← hpn, List.getElem?_map, hp]; rfl
      have hrf := rfC_z (z := (i : Int)) b60 hr
      by_cases hq : 0 ≤ z1 ∧ z1 ≤ 8
      · refine ⟨1001, 0, 0, _, by decide, by decide, by decide, wn_look (d2 := 1000) (by decide) h0L h0f (p_look (d := 1000) (by decide) hI h6 (by omega) hp hq) (fun r L' f' h => ?_), Pst.nrm (w := lkV p.2 z1) hI.1.2.1 hB trivial (fun r L' f1 h => ?_)⟩
        · obtain ⟨rfl, rfl, rfl⟩ := h
          exact ⟨⟨_, rfl⟩, hB.l35 hI.1.2.1⟩
        · obtain ⟨rfl, rfl, rfl⟩ := h
          refine ⟨rfl, FM.rf, c, a, _, _, n, hJ0, M.imp (fun r sf' sa' hR => ?_)⟩
          obtain ⟨k1, k2, k3⟩ := hR.2.2 hrf hq p.2 (by rw [Int.toNat_natCast]; exact hx)
          exact ⟨k1, k2.q.z0, hQ0.keep ((Sj.up0 0).tr k2.q.sj) k3⟩
      · refine ⟨1001, 1, 6, _, by decide, by decide, by decide, wx_look (d2 := 1000) (by decide) h0L h0f (x_lookN (d := 1000) (by decide) hI h6 hi (by omega) hw (by omega)) (fun E L' f' h => Or.inr (Or.inr h.1)), Pst.thr (E0 := eNE) hJ0 hB hQ0 trivial (M.imp (fun r sf' sa' hR => ?_))⟩
        rw [exN_NE]
        exact hR.2.1 hrf hq
    · refine ⟨1001, 1, 6, _, by decide, by decide, by decide, wx_look (d2 := 1000) (by decide) h0L h0f (x_look (d := 1000) (by decide) hI (x_needSentence (d := 999) (by decide) hI h6 (by omega) hz (by omega))) (fun E L' f' h => Or.inr (Or.inl h.1)), Pst.thr (E0 := eIO) hJ0 hB hQ0 trivial (M.imp (fun r sf' sa' hR => ?_))⟩
      rw [rfC_2 b60 hr] at hR
      exact hR.1 ne_IO
end PAIR
