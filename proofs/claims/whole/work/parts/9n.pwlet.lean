section PWL
variable {d e : Nat} {L L1 : List Nat} {f f1 : Nat → AC} {c c1 : SF} {a a1 : SA} {e4 e13 e15 : Nat} {po pn : List (Nat × Sen)}
theorem KI.read {ts : List (Int × Int × Int)} {i1 e' : Nat} {ps1 : List (Nat × Sen)} (h : KI L f c a e4 e13 e15 po pn) (hS : SB e ts c a L f e4 L1 f1 c1 a1 i1 e' ps1) : KI L1 f1 c1 a1 e' e13 e15 po pn ∧ FM L f L1 f1 := by
  obtain ⟨⟨hK, hL, h18⟩, ⟨⟨p4, h4⟩, h13, h15⟩, ⟨x1, x2, x3⟩, y1, y2, y3⟩ := h
  obtain ⟨k1, k2, k3, k4, k5, k6, k7, k8⟩ := hS
  obtain ⟨cap13, hls13⟩ := h13.2.1
  obtain ⟨cap15, hls15⟩ := h15.2.1
  have s1 : e13 = e4 → e13 = 17 := fun h => h.trans (x1 h.symm)
  have s2 : e15 = e4 → e15 = 17 := fun h => h.trans (x2 h.symm)
  refine ⟨⟨⟨k1, k2, k3⟩, ⟨⟨ps1, k5⟩, h13.keepH h4 hK k1 k6 k7 (Or.inl rfl) s1, h15.keepH h4 hK k1 k6 k7 (Or.inr rfl) s2⟩, ⟨fun h => ?_, fun h => ?_, x3⟩, e_new k8 y1, y2, y3⟩, k7.m y1⟩
  · have := e_ne k8 hls13.obj.2.1 s1 h.symm
    omega
  · have := e_ne k8 hls15.obj.2.1 s2 h.symm
    omega
set_option maxRecDepth 20000 in
set_option maxHeartbeats 2000000 in
theorem p_letter {q : List Sen × Nat} (hd : 175 ≤ d) (h : KI L f c a e4 e13 e15 po pn) (h11 : c 11 = e) (he : e ≤ 400) (hb : TK a) (hq : lettF (a 2) e 8 [] 0 = .inl q) (hql : q.1.length ≤ 8) : AM yX8_letter cX8_letter 2 (some .int) d 450 7500 [.ref 0] L f (fun r L' f' => r = some (.int (iI q.1.length)) ∧ ∃ c' a', KJ L' f' c' a' q.1 q.1 ∧ c' 5 = -1 ∧ c' 6 = c 6 + 1 ∧ c' 7 = 0 ∧ c' 11 = 0 ∧ a' 2 = a 2 ∧ FM L f L' f') := by
  obtain ⟨h0L, h0f⟩ := h.o0
  obtain ⟨p4, h4⟩ := h.2.1.1
  have M1 := r_read (d := d - 1) (by omega) h.1.1 h.1.2.1 h.1.2.2 h11 he hb h4
  rw [hq] at M1
  have h3f : f 3 = .inr (5, ko3 c) := by rw [h.1.1]; rfl
  refine AM.of (by decide +kernel) (by simp [Value.category]) (Nat.le_of_ble_eq_true rfl) false (fun h => by cases h) (fun X C => ?_)
  refine C.aload_n dX8_letter_0 rfl ?_
  refine C.getf gf_X8_19 dX8_letter_1 h0L h0f rfl ?_
  refine C.aload_n dX8_letter_4 rfl ?_
  refine C.getf gf_X8_10 dX8_letter_5 h0L h0f rfl ?_
  refine C.callV (M1) cw_X2_read ml_X8_61 im_X2_read sl_X2_read dX8_letter_8 (h.1.2.1 3 (by omega)) h3f rfl rfl (by omega) (by omega) (by omega) (Nat.le_of_ble_eq_true rfl) rfl (fun r8 L8 f8 hR8 => ?_)
  obtain ⟨c1, a1, i1, e', ps1, hS, rfl, hps⟩ := hR8
  obtain ⟨hK1, hM1⟩ := h.read hS
  skip
  obtain ⟨h0L1, h0f1⟩ := hK1.o0
  have hL1 := hK1.1.2.1
  have hGR : GR c c1 a a1 := hS.2.2.2.2.2.1
  have hLt4 : LtAt L8 f8 4 e' ps1 := hS.2.2.2.2.1
  have h111 : c1 11 = e := (hGR.1 11 (by omega)).trans h11
  have M2 := (k_cut (d := d - 1) (g := f8) (a := a1) (z := 0) hL1 (by unfold i3; decide) h111 he).at hK1.1.1
  rw [if_pos (show (0 : Int) ≤ 0 ∧ (0 : Int) ≤ (e : Int) by omega)] at M2
  have h1f1 : f8 1 = .inr (7, ko1 c1) := by rw [hK1.1.1]; rfl
  refine C.istore_n dX8_letter_11 (by decide) rfl ?_
  refine C.aload_n dX8_letter_12 rfl ?_
  refine C.getf gf_X8_10 dX8_letter_13 h0L1 h0f1 rfl ?_
  refine C.ic dX8_letter_16 ?_
  refine C.callV (M2) cw_X4_cut ml_X8_57 im_X4_cut sl_X4_cut dX8_letter_17 (hL1 1 (by omega)) h1f1 rfl rfl (by omega) (by omega) (by omega) (Nat.le_of_ble_eq_true rfl) rfl (fun r17 L17 f17 hR17 => ?_)
  obtain ⟨c9, a9, ⟨rfl, hc9, ha9⟩, rfl, hf9⟩ := hR17
  rw [hf9, hc9, ha9]
  skip
  have hL := hL1
  refine C.pop dX8_letter_20 rfl ?_
  refine C.aload_n dX8_letter_21 rfl ?_
  refine C.iload_n dX8_letter_22 rfl ?_
  refine C.if_eqI (tgt := 30) dX8_letter_23 (by decide) (by decide) (fun hc23 => absurd hc23 (by decide)) (fun hc23 => ?_)
  refine C.ic dX8_letter_26 ?_
  refine C.goto (tgt := 37) dX8_letter_27 (by decide) ?_
  refine C.kput_5 hL pf_X8_40 dX8_letter_37 ?_
  refine C.iload_n dX8_letter_40 rfl ?_
  refine C.if_neI (tgt := 54) dX8_letter_41 (by decide) (by decide) (fun hc41 => ?_) (fun hc41 => absurd hc41 (by decide))
  skip
  have hG2 : Gk c1 (va_up (va_up c1 11 0) 5 (-1)) a1 a1 := ⟨fun j x _ _ y _ _ => (va_up_ne _ _ x).trans (va_up_ne _ _ y), fun _ _ _ => rfl⟩
  obtain ⟨hK2, hM2⟩ := hK1.gk hG2
  have hLt42 : LtAt L17 (kv (va_up (va_up c1 11 0) 5 (-1)) a1 f8) 4 e' ps1 := hLt4.keepF hK1.1.1 (kv_Fk hK1.1.1 hG2) (fun q hq => by simp at hq; omega)
  generalize hc2 : va_up (va_up c1 11 0) 5 (-1) = c2 at *
  have hc25 : c2 5 = -1 := by rw [← hc2]; rfl
  have hc211 : c2 11 = 0 := by rw [← hc2]; rfl
  have hc26 : c2 6 = c 6 := by rw [← hc2]; exact hGR.1 6 (by omega)
  generalize kv c2 a1 f8 = f2 at *
  obtain ⟨h0L2, h0f2⟩ := hK2.o0
  have h3f2 : f2 3 = .inr (5, ko3 c2) := by rw [hK2.1.1]; rfl
  have hpl : ps1.length = q.1.length := by rw [← hps, List.length_map]
  have M3 := t_become (d := d - 1) (by omega) hK2.2.1.2.1 hLt42 (by decide) (by decide) hK2.2.2.1.1 (by omega)
  obtain ⟨-, h13L, h13f⟩ := hK2.2.1.2.1.1
  refine C.aload_n dX8_letter_54 rfl ?_
  refine C.getf gf_X8_33 dX8_letter_55 h0L2 h0f2 rfl ?_
  refine C.aload_n dX8_letter_58 rfl ?_
  refine C.getf gf_X8_19 dX8_letter_59 h0L2 h0f2 rfl ?_
  refine C.getf gf_X8_76 dX8_letter_62 (hL 3 (by omega)) h3f2 rfl ?_
  refine C.callV (M3) cw_X1_become ml_X8_79 im_X1_become sl_X1_become dX8_letter_65 h13L h13f rfl rfl (by omega) (by omega) (by omega) (Nat.le_of_ble_eq_true rfl) rfl (fun r65 L65 f65 hR65 => ?_)
  obtain ⟨rfl, e5, ps5, hps5, hA5, hF5, he5⟩ := hR65
  obtain ⟨c3, hK3, hj3, hM3⟩ := hK2.up13 hA5 hF5 he5
  skip
  obtain ⟨cap13, hls13⟩ := hK2.2.1.2.1.2.1
  have hLt43 := hLt42.keepQ hls13 hF5 (by decide) (by decide) (by decide) hK2.2.2.1.1
  obtain ⟨h0L3, h0f3⟩ := hK3.o0
  have h3f3 : f65 3 = .inr (5, ko3 c3) := by rw [hK3.1.1]; rfl
  have M4 := t_become (d := d - 1) (by omega) hK3.2.1.2.2 hLt43 (by decide) (by decide) hK3.2.2.1.2.1 (by omega)
  obtain ⟨-, h15L, h15f⟩ := hK3.2.1.2.2.1
  refine C.aload_n dX8_letter_68 rfl ?_
  refine C.getf gf_X8_37 dX8_letter_69 h0L3 h0f3 rfl ?_
  refine C.aload_n dX8_letter_72 rfl ?_
  refine C.getf gf_X8_19 dX8_letter_73 h0L3 h0f3 rfl ?_
  refine C.getf gf_X8_76 dX8_letter_76 (hK3.1.2.1 3 (by omega)) h3f3 rfl ?_
  refine C.callV (M4) cw_X1_become ml_X8_79 im_X1_become sl_X1_become dX8_letter_79 h15L h15f rfl rfl (by omega) (by omega) (by omega) (Nat.le_of_ble_eq_true rfl) rfl (fun r79 L79 f79 hR79 => ?_)
  obtain ⟨rfl, e6, ps6, hps6, hA6, hF6, he6⟩ := hR79
  obtain ⟨c4, hK4, hj4, hM4⟩ := hK3.up15 hA6 hF6 he6
  skip
  have hL4 := hK4.1.2.1
  have h46 : c4 6 = c 6 := by rw [hj4 6 (by omega), hj3 6 (by omega)]; exact hc26
  have hG5 : Gk c4 (va_up (va_up c4 6 (c 6 + 1)) 7 0) a1 a1 := ⟨fun j _ x y _ _ _ => (va_up_ne _ _ y).trans (va_up_ne _ _ x), fun _ _ _ => rfl⟩
  obtain ⟨hK5, hM5⟩ := hK4.gk hG5
  have M5 := t_size (d := d - 1) (by omega) hK5.2.1.2.1
  obtain ⟨-, h13L5, h13f5⟩ := hK5.2.1.2.1.1
  obtain ⟨h0L5, h0f5⟩ := hK5.o0
  have hlen5 : ps5.length = q.1.length := by
    have := congrArg List.length hps5
    rw [List.length_map, List.length_map] at this
    omega
  replace hL := hL4
  rw [hK4.1.1]
  refine C.aload_n dX8_letter_82 rfl ?_
  refine C.dup dX8_letter_83 rfl ?_
  refine C.getf gf_X8_44 dX8_letter_84 (hL _ (by decide)) rfl rfl ?_
  refine C.topI (b := c 6) h46 ?_
  refine C.ic dX8_letter_87 ?_
  refine C.iaddI dX8_letter_88 ?_
  refine C.kput_6 hL pf_X8_44 dX8_letter_89 ?_
  refine C.aload_n dX8_letter_92 rfl ?_
  refine C.ic dX8_letter_93 ?_
  refine C.kput_7 hL pf_X8_47 dX8_letter_94 ?_
  refine C.aload_n dX8_letter_97 rfl ?_
  refine C.getf gf_X8_33 dX8_letter_98 (hL _ (by decide)) rfl rfl ?_
  refine C.callV (M5) cw_X1_size ml_X8_83 im_X1_size sl_X1_size dX8_letter_101 h13L5 h13f5 rfl rfl (by omega) (by omega) (by omega) (Nat.le_of_ble_eq_true rfl) rfl (fun r101 L101 f101 hR101 => ?_)
  obtain ⟨rfl, hL9, hf9⟩ := hR101
  rw [hL9, hf9]
  clear hL9 hf9
  refine C.retI rfl (by first | rfl | (exact (iI_bool (by first | exact Or.inl rfl | exact Or.inr rfl | assumption)).1)) dX8_letter_104 (by omega) (by omega) ⟨?_, _, _, ⟨_, _, _, _, _, hK5, ?_, ?_⟩, ?_, rfl, rfl, ?_, hGR.2 2 (by omega), (((hM1.tr hM2).tr hM3).tr hM4).tr hM5⟩
  · rw [hlen5]
  · exact hps5.trans hps
  · exact hps6.trans hps
  · show c4 5 = -1
    rw [hj4 5 (by omega), hj3 5 (by omega)]
    exact hc25
  · show c4 11 = 0
    rw [hj4 11 (by omega), hj3 11 (by omega)]
    exact hc211
end PWL
