/-! the start: what the Statement gives -/
section STA
variable {args : Array Value} {s : State}
theorem st_ac {ty : FieldType} (h : (Cond.arrayClass ty).before args s = true) : ∃ c : ClassId, ArrOfT s c ty ∧ s.vm.findClass ("[" ++ ty.toString) = some c := by
  obtain ⟨c, k, comp, h1, h2, h3⟩ := Cond.arrayClass_spec (args := args) (first := s) (o := none) (s := s) (idx := []) (type := ty) h
  exact ⟨c, fun n z => ⟨fun k h => (by cases h), k, h2, comp, h3⟩, h1⟩
theorem st_ao {C : String} (h : (Cond.arrayOver (.object C)).before args s = true) : ∃ c : ClassId, ArrOfT s c (.object C) ∧ va_RA s c (.object C) ∧ s.vm.findClass ("[" ++ (FieldType.object C).toString) = some c := by
  obtain ⟨comp, c, k, h1, -, h3, h4, h5⟩ := Cond.arrayOver_spec (args := args) (first := s) (o := none) (s := s) (idx := []) (n := C) h
  exact ⟨c, fun n z => ⟨fun k h => (by cases h), k, h3, comp, h4⟩, ⟨k, comp, h3, h4, h1, h5⟩, h5⟩
theorem uw_1 : ∀ w ∈ u_ws RJ4 TJ4 4, w ∈ lw_tbl := by decide +kernel
theorem st_inst : ∀ w ∈ [Cond.instantiable RJ0 4, Cond.instantiable RJ4 4, Cond.instantiable RJx4a65c 3, Cond.instantiable RX0 7, Cond.instantiable RX1 1, Cond.instantiable RX2 6, Cond.instantiable RX3 7, Cond.instantiable RX4 2, Cond.instantiable RX6 6, Cond.instantiable RX7 3, Cond.instantiable RX8 8, Cond.instantiable RX9 33, Cond.arrayClass .byte, Cond.arrayClass .int, Cond.arrayClass .boolean, Cond.arrayClass .long, Cond.arrayOver (.object "PlainWords$Cond"), Cond.arrayOver (.object "java/lang/Object")], w ∈ lw_tbl := by decide +kernel
theorem st_Kc (hts : ∀ w ∈ lw_tbl, w.before args s = true) : ∃ (dC : Nat → ClassId) (dI : Nat → Nat → Nat), ∀ (k : Nat) (q : vw_C), vwCl[k]? = some q → u_Kn s q.1 q.2.1 q.2.2 (dC k) (dI k) := by
  have hi := fun w hw => hts w (st_inst w hw)
  have hO : ∀ w ∈ Om, w.before args s = true := fun w hw => hts w (tb_Om w hw)
  obtain ⟨c0, i0, h0⟩ := u_known (C := RJ0) (T := TJ0) (N := 4) (n := 4) hO uw_0 (hi _ (List.mem_of_getElem? (i := 0) rfl))
  obtain ⟨c1, i1, h1⟩ := u_known (C := RJ4) (T := TJ4) (N := 4) (n := 4) hts uw_1 (hi _ (List.mem_of_getElem? (i := 1) rfl))
  obtain ⟨c2, i2, h2⟩ := u_known (C := RJx4a65c) (T := TJx4a65c) (N := 3) (n := 3) hO uw_2 (hi _ (List.mem_of_getElem? (i := 2) rfl))
  obtain ⟨c3, i3, h3⟩ := u_known (C := RX0) (T := TX0) (N := 7) (n := 7) hO uw_3 (hi _ (List.mem_of_getElem? (i := 3) rfl))
  obtain ⟨c4, i4, h4⟩ := u_known (C := RX1) (T := TX1) (N := 1) (n := 1) hO uw_4 (hi _ (List.mem_of_getElem? (i := 4) rfl))
  obtain ⟨c5, i5, h5⟩ := u_known (C := RX2) (T := TX2) (N := 6) (n := 6) hO uw_5 (hi _ (List.mem_of_getElem? (i := 5) rfl))
  obtain ⟨c6, i6, h6⟩ := u_known (C := RX3) (T := TX3) (N := 7) (n := 7) hO uw_6 (hi _ (List.mem_of_getElem? (i := 6) rfl))
  obtain ⟨c7, i7, h7⟩ := u_known (C := RX4) (T := TX4) (N := 2) (n := 2) hO uw_7 (hi _ (List.mem_of_getElem? (i := 7) rfl))
  obtain ⟨c8, i8, h8⟩ := u_known (C := RX6) (T := TX6) (N := 6) (n := 6) hO uw_8 (hi _ (List.mem_of_getElem? (i := 8) rfl))
  obtain ⟨c9, i9, h9⟩ := u_known (C := RX7) (T := TX7) (N := 3) (n := 3) hO uw_9 (hi _ (List.mem_of_getElem? (i := 9) rfl))
  obtain ⟨c10, i10, h10⟩ := u_known (C := RX8) (T := TX8) (N := 8) (n := 8) hO uw_10 (hi _ (List.mem_of_getElem? (i := 10) rfl))
  obtain ⟨c11, i11, h11⟩ := u_known (C := RX9) (T := TX9) (N := 33) (n := 33) hO uw_11 (hi _ (List.mem_of_getElem? (i := 11) rfl))
  refine ⟨fun k => [c0, c1, c2, c3, c4, c5, c6, c7, c8, c9, c10, c11].getD k c0, fun k => [i0, i1, i2, i3, i4, i5, i6, i7, i8, i9, i10, i11].getD k i0, ?_⟩
  intro k q hq
  have hk : k < 12 := (List.getElem?_eq_some_iff.mp hq).1
  rcases (show k = 0 ∨ k = 1 ∨ k = 2 ∨ k = 3 ∨ k = 4 ∨ k = 5 ∨ k = 6 ∨ k = 7 ∨ k = 8 ∨ k = 9 ∨ k = 10 ∨ k = 11 by omega) with rfl | rfl | rfl | rfl | rfl | rfl | rfl | rfl | rfl | rfl | rfl | rfl <;> cases hq
  · exact h0
  · exact h1
  · exact h2
  · exact h3
  · exact h4
  · exact h5
  · exact h6
  · exact h7
  · exact h8
  · exact h9
  · exact h10
  · exact h11
theorem st_K (hts : ∀ w ∈ lw_tbl, w.before args s = true) : ∃ (dC : Nat → ClassId) (dI : Nat → Nat → Nat) (cy : Nat → ClassId), va_K (dC, dI) vwCl (tyl cy) s ∧ ∀ (t : Nat) (n : String), nmA[t]? = some n → s.vm.findClass n = some (cy t) := by
  have hi := fun w hw => hts w (st_inst w hw)
  obtain ⟨dC, dI, hKc⟩ := st_Kc hts
  obtain ⟨y0, a0, b0⟩ := st_ac (ty := .byte) (hi _ (List.mem_of_getElem? (i := 12) rfl))
  obtain ⟨y1, a1, b1⟩ := st_ac (ty := .int) (hi _ (List.mem_of_getElem? (i := 13) rfl))
  obtain ⟨y2, a2, b2⟩ := st_ac (ty := .boolean) (hi _ (List.mem_of_getElem? (i := 14) rfl))
  obtain ⟨y3, a3, b3⟩ := st_ac (ty := .long) (hi _ (List.mem_of_getElem? (i := 15) rfl))
  obtain ⟨y4, a4, e4, b4⟩ := st_ao (C := "PlainWords$Cond") (hi _ (List.mem_of_getElem? (i := 16) rfl))
  obtain ⟨y5, a5, e5, b5⟩ := st_ao (C := "java/lang/Object") (hi _ (List.mem_of_getElem? (i := 17) rfl))
  refine ⟨dC, dI, fun k => [y0, y1, y2, y3, y4, y5].getD k y0, ⟨hKc, fun k q hq => ?_⟩, fun k q hq => ?_⟩
  · have hk : k < 6 := (List.getElem?_eq_some_iff.mp hq).1
    rcases (show k = 0 ∨ k = 1 ∨ k = 2 ∨ k = 3 ∨ k = 4 ∨ k = 5 by omega) with rfl | rfl | rfl | rfl | rfl | rfl <;> cases hq
    · exact ⟨a0, b0⟩
    · exact ⟨a1, b1⟩
    · exact ⟨a2, b2⟩
    · exact ⟨a3, b3⟩
    · exact ⟨a4, e4⟩
    · exact ⟨a5, e5⟩
  · have hk : k < 6 := (List.getElem?_eq_some_iff.mp hq).1
    rcases (show k = 0 ∨ k = 1 ∨ k = 2 ∨ k = 3 ∨ k = 4 ∨ k = 5 by omega) with rfl | rfl | rfl | rfl | rfl | rfl <;> cases hq
    · exact b0
    · exact b1
    · exact b2
    · exact b3
    · exact b4
    · exact b5
/-- what the Statement says of a text -/
def Wq (q : String × Nat × String × List Int32) : List Cond := Cond.exactly (.string q.1 q.2.1) "java/lang/String" :: Cond.eq (.field (.string q.1 q.2.1) "java/lang/String" "coder" "B") (.int 0) :: Cond.arrayOf (.field (.string q.1 q.2.1) "java/lang/String" "value" "[B") .byte :: Cond.eq (.length (.field (.string q.1 q.2.1) "java/lang/String" "value" "[B")) (.int (Int32.ofNat q.2.2.2.length)) :: (List.range q.2.2.2.length).map (fun j => Cond.eq (.elem (.field (.string q.1 q.2.1) "java/lang/String" "value" "[B") (.int (Int32.ofNat j))) (.int (q.2.2.2.getD j 0)))
theorem st_one {A : Nat → Prop} {q : String × Nat × String × List Int32} (hl : q.2.2.2.length < 2 ^ 31) (hr : (Cond.stringRef q.1 q.2.1 q.2.2.1).before args s = true) (hw : ∀ w ∈ Wq q, w.before args s = true) (hA : ∀ a : Nat, a < s.heap.size → ¬ A a) : ∃ p : Nat × Nat, vk_R q.1 q.2.1 q.2.2.1 p.1 s ∧ va_O "java/lang/String" p.1 A s s.heap ∧ va_OF "java/lang/String" "coder" "B" (.int 0) p.1 A s s.heap ∧ va_OF "java/lang/String" "value" "[B" (.ref p.2) p.1 A s s.heap ∧ va_T .byte p.2 q.2.2.2.length (fun i => .int (q.2.2.2.getD i 0)) A s s.heap := by
  obtain ⟨a, c, cA, kA, q1, q2, q3, q4, q5, q6, -⟩ := Cond.exactly_spec (args := args) (first := s) (o := none) (s := s) (idx := []) (t := .string q.1 q.2.1) (cls := "java/lang/String") (hw _ List.mem_cons_self)
  obtain ⟨t, ht, hT⟩ := va_Tof (tm := .field (.string q.1 q.2.1) "java/lang/String" "value" "[B") (f := fun j => .int (q.2.2.2.getD j 0)) (A := A) hl (hw _ (List.mem_cons_of_mem _ (List.mem_cons_of_mem _ List.mem_cons_self))) (va_eqt (hw _ (List.mem_cons_of_mem _ (List.mem_cons_of_mem _ (List.mem_cons_of_mem _ List.mem_cons_self))))) (fun j hj => va_eqt (hw _ (List.mem_cons_of_mem _ (List.mem_cons_of_mem _ (List.mem_cons_of_mem _ (List.mem_cons_of_mem _ (List.mem_map.mpr ⟨j, List.mem_range.mpr hj, rfl⟩))))))) hA
  exact ⟨(a, t), vk_R.of hr q1, ⟨cA, q3, q5, by rw [q6]; exact q2, hA a (Array.getElem?_eq_some_iff.mp q3).1⟩, vk_OFof q1 (va_eqt (hw _ (List.mem_cons_of_mem _ List.mem_cons_self))) hA, vk_OFof q1 ht hA, hT⟩
theorem st_sr : ∀ q ∈ strs, Cond.stringRef q.1 q.2.1 q.2.2.1 ∈ lw_tbl := by decide +kernel
theorem st_sl : ∀ q ∈ strs, q.2.2.2.length < 2 ^ 31 := by decide +kernel
theorem st_ix {ws : List Cond} (is : List Nat) (h : ws.map some = is.map (fun i => (flatC (Jvm.Cond.and given_1 narrow_1))[i]?)) : ∀ w ∈ ws, w ∈ flatC (Jvm.Cond.and given_1 narrow_1) := fun w hw => by
  have h1 : some w ∈ ws.map some := List.mem_map.mpr ⟨w, hw, rfl⟩
  rw [h] at h1
  obtain ⟨i, -, hi⟩ := List.mem_map.mp h1
  exact List.mem_of_getElem? hi
theorem st_sf : ∀ w ∈ strs.flatMap Wq, w ∈ flatC (Jvm.Cond.and given_1 narrow_1) := st_ix [291, 292, 293, 294, 295, 296, 297, 298, 299, 300, 301, 302, 303, 304, 305, 306, 307, 308, 309, 310, 311, 312, 313, 314, 315, 316, 317, 318, 319, 320, 321, 322, 323, 324, 325, 326, 327, 328, 329, 330, 331, 332, 333, 334, 335, 336, 337, 338, 339, 340, 341, 342, 343, 344, 345, 346, 347, 348, 349, 350, 351, 352, 353, 354, 355, 356, 357, 358, 359, 360, 361, 362, 363, 364, 365, 366, 367, 368, 369, 370, 371, 372, 373, 374, 375, 376, 377, 378, 379, 380, 381, 382, 383, 384, 385, 386, 387, 388, 389, 390, 391, 392, 393, 394, 395, 396, 397, 398, 399, 400, 401, 402, 403, 404, 405, 406, 407, 408, 409, 410, 411, 558, 559, 560, 561, 562, 563, 564, 566, 567, 568, 569, 570, 571, 572, 573, 575, 576, 577, 578, 579, 580, 581, 583, 584, 585, 586, 587, 588, 590, 591, 592, 593, 594, 595, 596, 598, 599, 600, 601, 602, 603, 605, 606, 607, 608, 609, 610, 611, 612, 614, 615, 616, 617, 618, 619, 620, 622, 623, 624, 625, 626, 627, 628, 629, 631, 632, 633, 634, 635, 636, 637, 639, 640, 641, 642, 643, 644, 646, 647, 648, 649, 650, 651, 652, 653, 655, 656, 657, 658, 659, 660, 551, 552, 553, 554, 555, 556, 662, 663, 664, 665, 666, 667, 668, 669, 670, 671, 673, 674, 675, 676, 677, 678, 679, 680, 681, 682, 684, 685, 686, 687, 688, 689, 690, 691, 692, 693, 694, 695, 696, 697, 698, 699, 700, 701, 702, 703, 412, 413, 414, 415, 416, 417, 418, 419, 420, 421, 422, 423, 424, 425, 426, 427, 428, 429, 430, 431, 432, 514, 515, 516, 517, 518, 519, 520, 521, 522, 523, 524, 525, 526, 527, 528, 529, 530, 531, 532, 533, 534, 535, 536, 537, 538, 539, 540, 541, 542, 543, 544, 545, 546, 547, 548, 549, 550, 433, 434, 435, 436, 437, 438, 439, 440, 441, 442, 443, 444, 445, 446, 447, 448, 449, 450, 451, 452, 453, 454, 455, 456, 457, 458, 459, 460, 461, 462, 463, 464, 465, 466, 467, 468, 469, 470, 471, 472, 473, 474, 475, 476, 477, 478, 479, 480, 481, 482, 483] (by decide +kernel)
theorem st_sw : ∀ q ∈ strs, ∀ w ∈ Wq q, w ∈ flatC (Jvm.Cond.and given_1 narrow_1) := fun q hq w hw => st_sf w (List.mem_flatMap.mpr ⟨q, hq, hw⟩)
end STA
