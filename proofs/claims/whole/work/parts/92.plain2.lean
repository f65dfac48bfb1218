theorem prS_rng {L : List Nat} {f : Nat → AC} {D k : Nat} {x : Sen} {n : Int} (hn : 0 ≤ n ∧ n ≤ 3) (h : SAt L f D k x) (hx : SOk x) : -100 ≤ prS x n ∧ prS x n ≤ 20000 := by
  obtain ⟨-, e, w, u, hf, he, hw, hu⟩ := h
  have w1 := wdO_rng hw
  have w2 := wdO_rng hu
  unfold prS wdS
  repeat' split
  all_goals omega
theorem s_turnedW {d k : Nat} {x : Sen} {L : List Nat} {f : Nat → AC} (hd : 2 ≤ d) (h : SW L f k x) (hc : canT x = true) : AM yX3_turned cX3_turned 1 (some (.object "PlainWords$Sentence")) d 1 7 [.ref k] L f (fun r L' f' => ∃ q, r = some (.ref q) ∧ SW L' f' q (trn x) ∧ Fo L f L' f') := by
  obtain ⟨D, hS, hx, hD⟩ := h
  refine (s_turned hd hS).imp (fun r L' f' hq => ?_)
  obtain ⟨q, h1, h2, h3⟩ := hq
  exact ⟨q, h1, ⟨D, h2, hx.trn hc, hD⟩, h3⟩
theorem wcV_ok {w : Nat} {x : Sen} (hx : SOk x) (ho : wcO w x = true) : wcV w x = if wcP w then (x.1.1.length : Int) * prS (wyO (wcT w) (wcE w) x) 1 else prS (wyO (wcT w) (wcE w) x) x.1.1.length := by
  have h2 : wyOk (wcP w) (wcT w) (wcE w) x = true := ho
  unfold wyOk at h2
  rw [Bool.and_eq_true, Bool.and_eq_true] at h2
  show wyV _ _ _ x = _
  unfold wyV
  rw [show wyOk (wcP w) (wcT w) (wcE w) x = true from ho, if_pos rfl]
  exact pc_eq hx h2.1.2
section PLAIN2
variable {d lt e k : Nat} {L : List Nat} {f : Nat → AC} {ps : List (Nat × Sen)} {x : Sen}
set_option maxRecDepth 20000 in
set_option maxHeartbeats 4000000 in
theorem t_addPlainest {N : Nat} (hN : N < 900) (hd : 40 ≤ d) (h : LtAt L f lt e ps) (hx : SW L f k x) (hl : ps.length + 3 ≤ 24) (hlv : lvs (ezT x.2.2.1 x.2.2.2) ≤ N) (hlen : (cdO (ezO x.2.2.1 x.2.2.2)).length ≤ 400) : AM yX1_addPlainest cX1_addPlainest 12 none d (kc (ezT x.2.2.1 x.2.2.2) + 30) (ks N (ezT x.2.2.1 x.2.2.2) + N + 240) [.ref lt, .ref k] L f (LtPo L f lt e none (ps.map (fun p => p.2) ++ plL x)) := by
  have hxo := hx.a29.2
  have hlx := hxo.1.1.1
  have hlx1 := hxo.1.1.2.1
  generalize hmc : kc (ezT x.2.2.1 x.2.2.2) + 30 = mc
  generalize hms : ks N (ezT x.2.2.1 x.2.2.2) + N + 240 = ms
  refine AM.of (by decide +kernel) (by simp [Value.category]) (Nat.le_of_ble_eq_true rfl) false (fun h => by cases h) (fun X C => ?_)
  have loop : ∀ (n w : Nat) (L1 : List Nat) (f1 : Nat → AC) (ce sl ke kb b : Nat), w + n = 8 → 1 ≤ w → Fo L f L1 f1 → (canE x = true → SW L1 f1 ke (ezS x)) → b < w → wcO b x = true → SW L1 f1 kb (wyO (wcT b) (wcE b) x) → (0 ≤ wcV b x ∧ wcV b x ≤ 100000) → (∀ i, i < w → wcO i x = true → 16 * wcV b x + wcK b ≤ 16 * wcV i x + wcK i) → ce + (8 - w) + 10 ≤ mc → sl + 7 * (8 - w) + 151 ≤ ms → ∀ v7 v8 v9 v10 v11, X ce sl L1 f1 35 [some (.ref lt), some (.ref k), some (.ref ke), some (.ref kb), some (.int (iI b)), some (.int (iI (wcV b x))), some (.int (iI w)), v7, v8, v9, v10, v11] [] := by
    intro n
    induction n with
    | zero =>
      intro w L1 f1 ce sl ke kb b hwn hw1 hF hke hb hbo hkb hVb hmin hce hsl v7 v8 v9 v10 v11
      have hw8 : w = 8 := by omega
      subst hw8
      have h1 := h.keepO hF
      obtain ⟨-, hlt1, hflt1⟩ := h1.1
      have hbl := wyB_len (p := wcP b) hkb.a29.2
      have M := t_addWhole (d := d - 1) (p := wcP b) (by omega) h1 hkb (by omega)
      have hb01 := b2i_01 (wcP b)
      have hpl : wyB (wcP b) (wyO (wcT b) (wcE b) x) = plL x := by
        rw [← wyL_B]
        refine best_one hbo (fun p' t' e' ho => ?_)
        obtain ⟨i, hi, rfl, rfl, rfl⟩ := wc_any p' t' e'
        exact hmin i hi ho
      rw [hpl] at M
      refine C.iload dX1_addPlainest_35 rfl ?_
      refine C.bi dX1_addPlainest_37 (by decide) ?_
      refine C.icmp_geI (tgt := 231) dX1_addPlainest_39 (by decide) (by decide) (by decide) (fun hc39 => ?_) (fun hc39 => absurd hc39 (by decide))
      refine C.aload_n dX1_addPlainest_231 rfl ?_
      refine C.aload_n dX1_addPlainest_232 rfl ?_
      refine C.iload dX1_addPlainest_233 rfl ?_
      refine C.ic dX1_addPlainest_235 ?_
      refine C.iand dX1_addPlainest_236 ?_
      rw [wc4 b hb]
      refine C.if_eqI (tgt := 244) dX1_addPlainest_237 (by decide) (by omega) (fun hc237 => ?_) (fun hc237 => ?_)
      · refine C.ic dX1_addPlainest_244 ?_
        refine C.topI (b := b2i (wcP b)) (by omega) ?_
        refine C.callV (M) cw_X1_addWhole ml_X1_94 im_X1_addWhole sl_X1_addWhole dX1_addPlainest_245 hlt1 hflt1 rfl rfl (by omega) (by omega) (by omega) (Nat.le_of_ble_eq_true rfl) rfl (fun r245 L245 f245 hR245 => ?_)
        obtain ⟨rfl, e3, ps3, hps3, hA3, hF3, he3⟩ := hR245
        refine C.vret rfl dX1_addPlainest_248 (by omega) (by omega) ⟨rfl, e3, ps3, hps3, hA3, hF.ql.tr hF3 (Or.inl rfl), ?_⟩
        rcases he3 with h | ⟨h1, h2⟩
        · exact Or.inl h
        · exact Or.inr ⟨fun h => h1 (hF.1 _ h), h2⟩
      · refine C.ic dX1_addPlainest_240 ?_
        refine C.goto (tgt := 245) dX1_addPlainest_241 (by decide) ?_
        refine C.topI (b := b2i (wcP b)) (by omega) ?_
        refine C.callV (M) cw_X1_addWhole ml_X1_94 im_X1_addWhole sl_X1_addWhole dX1_addPlainest_245 hlt1 hflt1 rfl rfl (by omega) (by omega) (by omega) (Nat.le_of_ble_eq_true rfl) rfl (fun r245 L245 f245 hR245 => ?_)
        obtain ⟨rfl, e3, ps3, hps3, hA3, hF3, he3⟩ := hR245
        refine C.vret rfl dX1_addPlainest_248 (by omega) (by omega) ⟨rfl, e3, ps3, hps3, hA3, hF.ql.tr hF3 (Or.inl rfl), ?_⟩
        rcases he3 with h | ⟨h1, h2⟩
        · exact Or.inl h
        · exact Or.inr ⟨fun h => h1 (hF.1 _ h), h2⟩
    | succ n ih =>
      intro w L1 f1 ce sl ke kb b hwn hw1 hF hke hb hbo hkb hVb hmin hce hsl v7 v8 v9 v10 v11
      have hw8 : w < 8 := by omega
      have hx1 := hx.keep hF.p
      obtain ⟨hSx, -⟩ := hx1.a29
      obtain ⟨⟨hkL, hk2⟩, e0, w0, u0, hfk, ⟨he0, -, g0, hfe0, hg0⟩, -⟩ := id hSx
      have c1 := b2i_01 (wcP w)
      have c2 := b2i_01 (wcT w)
      have c3 := b2i_01 (wcE w)
      have hskip : wcO w x = false → ∀ v7 v8 v9 v10 v11, X ce sl L1 f1 225 [some (.ref lt), some (.ref k), some (.ref ke), some (.ref kb), some (.int (iI b)), some (.int (iI (wcV b x))), some (.int (iI w)), v7, v8, v9, v10, v11] [] := by
        intro hno v7 v8 v9 v10 v11
        refine C.iincI dX1_addPlainest_225 rfl (by decide) rfl ?_
        refine C.goto (tgt := 35) dX1_addPlainest_228 (by decide) ?_
        skip
        exact ih (w + 1) L1 f1 ce sl ke kb b (by omega) (by omega) hF hke (by omega) hbo hkb hVb (fun i hi ho => by
          by_cases hiw : i = w
          · rw [hiw, hno] at ho; cases ho
          · exact hmin i (by omega) ho) (by omega) (by omega) _ _ _ _ _
      have j187 : ∀ (L2 : List Nat) (f2 : Nat → AC) (ce2 sl2 kz : Nat) (v7 v8 v9 : Option Value), wcO w x = true → Fo L1 f1 L2 f2 → SW L2 f2 kz (wyO (wcT w) (wcE w) x) → (0 ≤ wcV w x ∧ wcV w x ≤ 100000) → ce2 ≤ ce + 1 → sl2 ≤ sl + 7 → X ce2 sl2 L2 f2 187 [some (.ref lt), some (.ref k), some (.ref ke), some (.ref kb), some (.int (iI b)), some (.int (iI (wcV b x))), some (.int (iI w)), v7, v8, v9, some (.ref kz), some (.int (iI (wcV w x)))] [] := by
        intro L2 f2 ce2 sl2 kz v7 v8 v9 hok hF2 hkz hVw hc2 hs2
        have hbc := wcK_bc w b hw8 hb
        have r1 : 0 ≤ wcK w ∧ wcK w < 16 := kkB_rng (wcP w) (wcT w) (wcE w)
        have r2 : 0 ≤ wcK b ∧ wcK b < 16 := kkB_rng (wcP b) (wcT b) (wcE b)
        have B1 : AM yJ6_bitCount_0f7a4 cJ6_bitCount_0f7a4 1 (some .int) (d - 1) 0 0 [.int (iI w)] L2 f2 (SP (some (.int (iI (bcI w)))) L2 f2) := j_bitCount (by omega)
        have B2 : AM yJ6_bitCount_0f7a4 cJ6_bitCount_0f7a4 1 (some .int) (d - 1) 0 0 [.int (iI b)] L2 f2 (SP (some (.int (iI (bcI b)))) L2 f2) := j_bitCount (by omega)
        have q1 : 0 ≤ bcI (w : Int) ∧ bcI (w : Int) ≤ 3 := by unfold bcI; omega
        have q2 : 0 ≤ bcI (b : Int) ∧ bcI (b : Int) ≤ 3 := by unfold bcI; omega
        have yes : 16 * wcV w x + wcK w < 16 * wcV b x + wcK b → X ce2 sl2 L2 f2 214 [some (.ref lt), some (.ref k), some (.ref ke), some (.ref kb), some (.int (iI b)), some (.int (iI (wcV b x))), some (.int (iI w)), v7, v8, v9, some (.ref kz), some (.int (iI (wcV w x)))] [] := by
          intro hlt
          refine C.aload dX1_addPlainest_214 rfl ?_
          refine C.astore_n dX1_addPlainest_216 (by decide) rfl ?_
          refine C.iload dX1_addPlainest_217 rfl ?_
          refine C.istore dX1_addPlainest_219 (by decide) rfl ?_
          refine C.iload dX1_addPlainest_221 rfl ?_
          refine C.istore dX1_addPlainest_223 (by decide) rfl ?_
          refine C.iincI dX1_addPlainest_225 rfl (by decide) rfl ?_
          refine C.goto (tgt := 35) dX1_addPlainest_228 (by decide) ?_
          skip
          exact ih (w + 1) L2 f2 ce2 sl2 ke kz w (by omega) (by omega) (hF.tr hF2) (fun hc => (hke hc).keep hF2.p) (by omega) hok hkz hVw (fun i hi ho => by
            by_cases hiw : i = w
            · rw [hiw]; omega
            · have := hmin i (by omega) ho; omega) (by omega) (by omega) _ _ _ _ _
        have no : 16 * wcV b x + wcK b ≤ 16 * wcV w x + wcK w → X ce2 sl2 L2 f2 225 [some (.ref lt), some (.ref k), some (.ref ke), some (.ref kb), some (.int (iI b)), some (.int (iI (wcV b x))), some (.int (iI w)), v7, v8, v9, some (.ref kz), some (.int (iI (wcV w x)))] [] := by
          intro hle
          refine C.iincI dX1_addPlainest_225 rfl (by decide) rfl ?_
          refine C.goto (tgt := 35) dX1_addPlainest_228 (by decide) ?_
          skip
          exact ih (w + 1) L2 f2 ce2 sl2 ke kb b (by omega) (by omega) (hF.tr hF2) (fun hc => (hke hc).keep hF2.p) (by omega) hbo (hkb.keep hF2.p) hVb (fun i hi ho => by
            by_cases hiw : i = w
            · rw [hiw]; exact hle
            · exact hmin i (by omega) ho) (by omega) (by omega) _ _ _ _ _
        generalize wcV w x = Vw at *
        generalize wcV b x = Vb at *
        refine C.iload dX1_addPlainest_187 rfl ?_
        refine C.iload dX1_addPlainest_189 rfl ?_
        refine C.icmp_ltI (tgt := 214) dX1_addPlainest_191 (by decide) (by omega) (by omega) (fun hc191 => ?_) (fun hc191 => ?_)
        · exact yes (by omega)
        · refine C.iload dX1_addPlainest_194 rfl ?_
          refine C.iload dX1_addPlainest_196 rfl ?_
          refine C.icmp_neI (tgt := 225) dX1_addPlainest_198 (by decide) (by omega) (by omega) (fun hc198 => ?_) (fun hc198 => ?_)
          · exact no (by omega)
          · refine C.iload dX1_addPlainest_201 rfl ?_
            refine C.callS (B1) cw_J6_bitCount_0f7a4 ml_X1_89 sm_J6_bitCount_0f7a4 dX1_addPlainest_203 rfl (by omega) (by omega) (by omega) (Nat.le_of_ble_eq_true rfl) rfl (fun r203 L203 f203 hR203 => ?_)
            obtain ⟨rfl, hL9, hf9⟩ := hR203
            rw [hL9, hf9]
            clear hL9 hf9
            refine C.iload dX1_addPlainest_206 rfl ?_
            refine C.callS (B2) cw_J6_bitCount_0f7a4 ml_X1_89 sm_J6_bitCount_0f7a4 dX1_addPlainest_208 rfl (by omega) (by omega) (by omega) (Nat.le_of_ble_eq_true rfl) rfl (fun r208 L208 f208 hR208 => ?_)
            obtain ⟨rfl, hL9, hf9⟩ := hR208
            rw [hL9, hf9]
            clear hL9 hf9
            refine C.icmp_geI (tgt := 225) dX1_addPlainest_211 (by decide) (by omega) (by omega) (fun hc211 => ?_) (fun hc211 => ?_)
            · exact no (by omega)
            · exact yes (by omega)
      have j154 : ∀ (L2 : List Nat) (f2 : Nat → AC) (ce2 sl2 kz : Nat) (v11 : Option Value), wcO w x = true → Fo L1 f1 L2 f2 → SW L2 f2 kz (wyO (wcT w) (wcE w) x) → ce2 ≤ ce + 1 → sl2 ≤ sl + 7 → X ce2 sl2 L2 f2 154 [some (.ref lt), some (.ref k), some (.ref ke), some (.ref kb), some (.int (iI b)), some (.int (iI (wcV b x))), some (.int (iI w)), some (.int (iI (b2i (wcP w)))), some (.int (iI (b2i (wcT w)))), some (.int (iI (b2i (wcE w)))), some (.ref kz), v11] [] := by
        intro L2 f2 ce2 sl2 kz v11 hok hF2 hkz hc2 hs2
        have hv := wcV_ok hxo hok
        obtain ⟨hSz, hzo⟩ := hkz.a29
        have hac := wyO_acts (wcT w) (wcE w) x
        have hP1 := prS_rng (n := 1) (by omega) hSz hzo
        have hP2 := prS_rng (n := x.1.1.length) (by omega) hSz hzo
        have M1 := s_price (d := d - 1) (n := 1) (by omega) (by omega) hSz hzo
        have M2 := s_price (d := d - 1) (n := (wyO (wcT w) (wcE w) x).1.1.length) (by omega) (by rw [hac]; omega) hSz hzo
        rw [hac] at M2
        obtain ⟨⟨hzL, -⟩, e1, w1, u1, hfz, ⟨he1, -, g1, hfe1, -⟩, -⟩ := hSz
        rw [hac] at hfe1
        have hkL2 := hF2.1 k hkL
        have hfk2 := (hF2.2 k hkL).trans hfk
        have he02 := hF2.1 e0 he0
        have hfe02 := (hF2.2 e0 he0).trans hfe0
        have h0 : 0 ≤ wcV w x := by
          show 0 ≤ wyV _ _ _ x
          unfold wyV
          rw [show wyOk (wcP w) (wcT w) (wcE w) x = true from hok, if_pos rfl]
          omega
        have hmul : (x.1.1.length : Int) * prS (wyO (wcT w) (wcE w) x) 1 ≤ 60000 := by
          have : x.1.1.length = 1 ∨ x.1.1.length = 2 ∨ x.1.1.length = 3 := by omega
          rcases this with h | h | h <;> rw [h] <;> omega
        have hr : 0 ≤ wcV w x ∧ wcV w x ≤ 100000 := by
          refine ⟨h0, ?_⟩
          rw [hv]
          split <;> omega
        refine C.iload dX1_addPlainest_154 rfl ?_
        refine C.if_eqI (tgt := 174) dX1_addPlainest_156 (by decide) (b2i_r3 _) (fun hc156 => ?_) (fun hc156 => ?_)
        · refine C.aload dX1_addPlainest_174 rfl ?_
          refine C.aload dX1_addPlainest_176 rfl ?_
          refine C.getf gf_X1_43 dX1_addPlainest_178 hzL hfz rfl ?_
          refine C.alenI dX1_addPlainest_181 he1 hfe1 (by decide) ?_
          refine C.callV (M2) cw_X3_price ml_X1_82 im_X3_price sl_X3_price dX1_addPlainest_182 hzL hfz rfl rfl (by omega) (by omega) (by omega) (Nat.le_of_ble_eq_true rfl) rfl (fun r182 L182 f182 hR182 => ?_)
          obtain ⟨rfl, hL9, hf9⟩ := hR182
          rw [hL9, hf9]
          clear hL9 hf9
          refine C.topI (b := wcV w x) (by first | (rw [hv, b2i_f hc156]; rfl) | (rw [hv, b2i_t hc156]; rfl)) ?_
          refine C.istore dX1_addPlainest_185 (by decide) rfl ?_
          exact j187 _ _ _ _ kz _ _ _ hok hF2 hkz hr hc2 hs2
        · refine C.aload_n dX1_addPlainest_159 rfl ?_
          refine C.getf gf_X1_43 dX1_addPlainest_160 hkL2 hfk2 rfl ?_
          refine C.alenI dX1_addPlainest_163 he02 hfe02 (by decide) ?_
          refine C.aload dX1_addPlainest_164 rfl ?_
          refine C.ic dX1_addPlainest_166 ?_
          refine C.callV (M1) cw_X3_price ml_X1_82 im_X3_price sl_X3_price dX1_addPlainest_167 hzL hfz rfl rfl (by omega) (by omega) (by omega) (Nat.le_of_ble_eq_true rfl) rfl (fun r167 L167 f167 hR167 => ?_)
          obtain ⟨rfl, hL9, hf9⟩ := hR167
          rw [hL9, hf9]
          clear hL9 hf9
          refine C.imulI dX1_addPlainest_170 ?_
          refine C.goto (tgt := 185) dX1_addPlainest_171 (by decide) ?_
          refine C.topI (b := wcV w x) (by first | (rw [hv, b2i_f hc156]; rfl) | (rw [hv, b2i_t hc156]; rfl)) ?_
          refine C.istore dX1_addPlainest_185 (by decide) rfl ?_
          exact j187 _ _ _ _ kz _ _ _ hok hF2 hkz hr hc2 hs2
      have j137 : ∀ (kz : Nat) (v11 : Option Value), wcO w x = true → SW L1 f1 kz (wyE (wcE w) x) → X ce sl L1 f1 137 [some (.ref lt), some (.ref k), some (.ref ke), some (.ref kb), some (.int (iI b)), some (.int (iI (wcV b x))), some (.int (iI w)), some (.int (iI (b2i (wcP w)))), some (.int (iI (b2i (wcT w)))), some (.int (iI (b2i (wcE w)))), some (.ref kz), v11] [] := by
        intro kz v11 hok hkz
        have h2 : wyOk (wcP w) (wcT w) (wcE w) x = true := hok
        unfold wyOk at h2
        rw [Bool.and_eq_true, Bool.and_eq_true] at h2
        have hcc : canT (wyE (wcE w) x) = canT x := by cases wcE w <;> rfl
        obtain ⟨hzL, -, fs, hfz⟩ := hkz.obj
        have hT : wcT w = true → SW L1 f1 kz (wyE (wcE w) x) ∧ canT (wyE (wcE w) x) = true := fun ht => ⟨hkz, by rw [hcc]; have := h2.1.2; rw [ht] at this; simpa using this⟩
        refine C.iload dX1_addPlainest_137 rfl ?_
        refine C.if_eqI (tgt := 150) dX1_addPlainest_139 (by decide) (b2i_r3 _) (fun hc139 => ?_) (fun hc139 => ?_)
        · refine C.aload dX1_addPlainest_150 rfl ?_
          refine C.astore dX1_addPlainest_152 (by decide) rfl ?_
          first | exact j154 _ _ _ _ q _ hok hF2 (by rw [show wyO (wcT w) (wcE w) x = trn (wyE (wcE w) x) from by unfold wyO wyT; rw [b2i_t hc139]; rfl]; exact hq) (by omega) (by omega) | exact j154 _ _ _ _ kz _ hok Fo.rf (by rw [show wyO (wcT w) (wcE w) x = wyE (wcE w) x from by unfold wyO wyT; rw [b2i_f hc139]; rfl]; exact hkz) (by omega) (by omega)
        · have hT2 := hT (b2i_t hc139)
          have M := s_turnedW (d := d - 1) (by omega) hT2.1 hT2.2
          refine C.aload dX1_addPlainest_142 rfl ?_
          refine C.callV (M) cw_X3_turned ml_X1_72 im_X3_turned sl_X3_turned dX1_addPlainest_144 hzL hfz rfl rfl (by omega) (by omega) (by omega) (Nat.le_of_ble_eq_true rfl) rfl (fun r144 L144 f144 hR144 => ?_)
          obtain ⟨q, rfl, hq, hF2⟩ := hR144
          refine C.goto (tgt := 152) dX1_addPlainest_147 (by decide) ?_
          refine C.astore dX1_addPlainest_152 (by decide) rfl ?_
          first | exact j154 _ _ _ _ q _ hok hF2 (by rw [show wyO (wcT w) (wcE w) x = trn (wyE (wcE w) x) from by unfold wyO wyT; rw [b2i_t hc139]; rfl]; exact hq) (by omega) (by omega) | exact j154 _ _ _ _ kz _ hok Fo.rf (by rw [show wyO (wcT w) (wcE w) x = wyE (wcE w) x from by unfold wyO wyT; rw [b2i_f hc139]; rfl]; exact hkz) (by omega) (by omega)
      have j125 : ∀ (v10 v11 : Option Value), wcO w x = true → X ce sl L1 f1 125 [some (.ref lt), some (.ref k), some (.ref ke), some (.ref kb), some (.int (iI b)), some (.int (iI (wcV b x))), some (.int (iI w)), some (.int (iI (b2i (wcP w)))), some (.int (iI (b2i (wcT w)))), some (.int (iI (b2i (wcE w)))), v10, v11] [] := by
        intro v10 v11 hok
        have h2 : wyOk (wcP w) (wcT w) (wcE w) x = true := hok
        unfold wyOk at h2
        rw [Bool.and_eq_true, Bool.and_eq_true] at h2
        refine C.iload dX1_addPlainest_125 rfl ?_
        refine C.if_eqI (tgt := 134) dX1_addPlainest_127 (by decide) (b2i_r3 _) (fun hc127 => ?_) (fun hc127 => ?_)
        · refine C.aload_n dX1_addPlainest_134 rfl ?_
          refine C.astore dX1_addPlainest_135 (by decide) rfl ?_
          first | exact j137 k _ hok (by rw [show wyE (wcE w) x = x from by unfold wyE; rw [b2i_f hc127]; rfl]; exact hx1) | exact j137 ke _ hok (by rw [show wyE (wcE w) x = ezS x from by unfold wyE; rw [b2i_t hc127]; rfl]; exact hke (by have := h2.2; rw [b2i_t hc127] at this; simpa using this))
        · refine C.aload_n dX1_addPlainest_130 rfl ?_
          refine C.goto (tgt := 135) dX1_addPlainest_131 (by decide) ?_
          refine C.astore dX1_addPlainest_135 (by decide) rfl ?_
          first | exact j137 k _ hok (by rw [show wyE (wcE w) x = x from by unfold wyE; rw [b2i_f hc127]; rfl]; exact hx1) | exact j137 ke _ hok (by rw [show wyE (wcE w) x = ezS x from by unfold wyE; rw [b2i_t hc127]; rfl]; exact hke (by have := h2.2; rw [b2i_t hc127] at this; simpa using this))
      have j110 : ∀ (v10 v11 : Option Value), (!wcP w || decide (2 ≤ x.1.1.length)) = true → (!wcT w || canT x) = true → X ce sl L1 f1 110 [some (.ref lt), some (.ref k), some (.ref ke), some (.ref kb), some (.int (iI b)), some (.int (iI (wcV b x))), some (.int (iI w)), some (.int (iI (b2i (wcP w)))), some (.int (iI (b2i (wcT w)))), some (.int (iI (b2i (wcE w)))), v10, v11] [] := by
        intro v10 v11 hp ht
        have hO : wcO w x = (!wcE w || canE x) := by
          show wyOk (wcP w) (wcT w) (wcE w) x = _
          unfold wyOk
          rw [hp, ht]
          rfl
        have M := s_canEase (d := d - 1) hSx
        refine C.iload dX1_addPlainest_110 rfl ?_
        refine C.if_eqI (tgt := 125) dX1_addPlainest_112 (by decide) (b2i_r3 _) (fun hc112 => ?_) (fun hc112 => ?_)
        · exact j125 _ _ (by rw [hO]; first | (rw [b2i_f hc112]; rfl) | (rw [b2i_t hc119]; simp))
        · refine C.aload_n dX1_addPlainest_115 rfl ?_
          refine C.callV (M) cw_X3_canEase ml_X1_76 im_X3_canEase sl_X3_canEase dX1_addPlainest_116 hkL hfk rfl rfl (by omega) (by omega) (by omega) (Nat.le_of_ble_eq_true rfl) rfl (fun r116 L116 f116 hR116 => ?_)
          obtain ⟨rfl, hL9, hf9⟩ := hR116
          rw [hL9, hf9]
          clear hL9 hf9
          refine C.if_neI (tgt := 125) dX1_addPlainest_119 (by decide) (b2i_r3 _) (fun hc119 => ?_) (fun hc119 => ?_)
          · exact j125 _ _ (by rw [hO]; first | (rw [b2i_f hc112]; rfl) | (rw [b2i_t hc119]; simp))
          · refine C.goto (tgt := 225) dX1_addPlainest_122 (by decide) ?_
            exact hskip (by rw [hO, b2i_t hc112, b2i_f hc119]; rfl) _ _ _ _ _
      have j98 : ∀ (v10 v11 : Option Value), (!wcP w || decide (2 ≤ x.1.1.length)) = true → X ce sl L1 f1 98 [some (.ref lt), some (.ref k), some (.ref ke), some (.ref kb), some (.int (iI b)), some (.int (iI (wcV b x))), some (.int (iI w)), some (.int (iI (b2i (wcP w)))), some (.int (iI (b2i (wcT w)))), some (.int (iI (b2i (wcE w)))), v10, v11] [] := by
        intro v10 v11 hp
        have hN : wcT w = true → canT x = false → wcO w x = false := fun h1 h2 => by
          show wyOk (wcP w) (wcT w) (wcE w) x = _
          unfold wyOk
          rw [hp, h1, h2]
          rfl
        have M := s_canTurn (d := d - 1) hSx hxo
        refine C.iload dX1_addPlainest_98 rfl ?_
        refine C.if_eqI (tgt := 110) dX1_addPlainest_100 (by decide) (b2i_r3 _) (fun hc100 => ?_) (fun hc100 => ?_)
        · exact j110 _ _ hp (by first | (rw [b2i_f hc100]; rfl) | (rw [b2i_t hc107]; simp))
        · refine C.aload_n dX1_addPlainest_103 rfl ?_
          refine C.callV (M) cw_X3_canTurn ml_X1_68 im_X3_canTurn sl_X3_canTurn dX1_addPlainest_104 hkL hfk rfl rfl (by omega) (by omega) (by omega) (Nat.le_of_ble_eq_true rfl) rfl (fun r104 L104 f104 hR104 => ?_)
          obtain ⟨rfl, hL9, hf9⟩ := hR104
          rw [hL9, hf9]
          clear hL9 hf9
          refine C.if_eqI (tgt := 225) dX1_addPlainest_107 (by decide) (b2i_r3 _) (fun hc107 => ?_) (fun hc107 => ?_)
          · exact hskip (hN (b2i_t hc100) (b2i_f hc107)) _ _ _ _ _
          · exact j110 _ _ hp (by first | (rw [b2i_f hc100]; rfl) | (rw [b2i_t hc107]; simp))
      have j84 : ∀ (v10 v11 : Option Value), X ce sl L1 f1 84 [some (.ref lt), some (.ref k), some (.ref ke), some (.ref kb), some (.int (iI b)), some (.int (iI (wcV b x))), some (.int (iI w)), some (.int (iI (b2i (wcP w)))), some (.int (iI (b2i (wcT w)))), some (.int (iI (b2i (wcE w)))), v10, v11] [] := by
        intro v10 v11
        have hN : wcP w = true → ¬ 2 ≤ x.1.1.length → wcO w x = false := fun h1 h2 => by
          show wyOk (wcP w) (wcT w) (wcE w) x = _
          unfold wyOk
          rw [h1, decide_eq_false h2]
          rfl
        refine C.iload dX1_addPlainest_84 rfl ?_
        refine C.if_eqI (tgt := 98) dX1_addPlainest_86 (by decide) (b2i_r3 _) (fun hc86 => ?_) (fun hc86 => ?_)
        · exact j98 _ _ (by first | (rw [b2i_f hc86]; rfl) | (rw [decide_eq_true (by omega)]; simp))
        · refine C.aload_n dX1_addPlainest_89 rfl ?_
          refine C.getf gf_X1_43 dX1_addPlainest_90 hkL hfk rfl ?_
          refine C.alenI dX1_addPlainest_93 he0 hfe0 (by decide) ?_
          refine C.ic dX1_addPlainest_94 ?_
          refine C.icmp_ltI (tgt := 225) dX1_addPlainest_95 (by decide) (by omega) (by omega) (fun hc95 => ?_) (fun hc95 => ?_)
          · exact hskip (hN (b2i_t hc86) (by omega)) _ _ _ _ _
          · exact j98 _ _ (by first | (rw [b2i_f hc86]; rfl) | (rw [decide_eq_true (by omega)]; simp))
      have j70 : ∀ (v9 v10 v11 : Option Value), X ce sl L1 f1 70 [some (.ref lt), some (.ref k), some (.ref ke), some (.ref kb), some (.int (iI b)), some (.int (iI (wcV b x))), some (.int (iI w)), some (.int (iI (b2i (wcP w)))), some (.int (iI (b2i (wcT w)))), v9, v10, v11] [] := by
        intro v9 v10 v11
        refine C.iload dX1_addPlainest_70 rfl ?_
        refine C.ic dX1_addPlainest_72 ?_
        refine C.iand dX1_addPlainest_73 ?_
        rw [wc1 w hw8]
        refine C.if_eqI (tgt := 81) dX1_addPlainest_74 (by decide) (b2i_r3 _) (fun hc74 => ?_) (fun hc74 => ?_)
        · refine C.ic dX1_addPlainest_81 ?_
          refine C.topI (b := b2i (wcE w)) (by omega) ?_
          refine C.istore dX1_addPlainest_82 (by decide) rfl ?_
          exact j84 _ _
        · refine C.ic dX1_addPlainest_77 ?_
          refine C.goto (tgt := 82) dX1_addPlainest_78 (by decide) ?_
          refine C.topI (b := b2i (wcE w)) (by omega) ?_
          refine C.istore dX1_addPlainest_82 (by decide) rfl ?_
          exact j84 _ _
      have j56 : ∀ (v8 v9 v10 v11 : Option Value), X ce sl L1 f1 56 [some (.ref lt), some (.ref k), some (.ref ke), some (.ref kb), some (.int (iI b)), some (.int (iI (wcV b x))), some (.int (iI w)), some (.int (iI (b2i (wcP w)))), v8, v9, v10, v11] [] := by
        intro v8 v9 v10 v11
        refine C.iload dX1_addPlainest_56 rfl ?_
        refine C.ic dX1_addPlainest_58 ?_
        refine C.iand dX1_addPlainest_59 ?_
        rw [wc2 w hw8]
        refine C.if_eqI (tgt := 67) dX1_addPlainest_60 (by decide) (by omega) (fun hc60 => ?_) (fun hc60 => ?_)
        · refine C.ic dX1_addPlainest_67 ?_
          refine C.topI (b := b2i (wcT w)) (by omega) ?_
          refine C.istore dX1_addPlainest_68 (by decide) rfl ?_
          exact j70 _ _ _
        · refine C.ic dX1_addPlainest_63 ?_
          refine C.goto (tgt := 68) dX1_addPlainest_64 (by decide) ?_
          refine C.topI (b := b2i (wcT w)) (by omega) ?_
          refine C.istore dX1_addPlainest_68 (by decide) rfl ?_
          exact j70 _ _ _
      refine C.iload dX1_addPlainest_35 rfl ?_
      refine C.bi dX1_addPlainest_37 (by decide) ?_
      refine C.icmp_geI (tgt := 231) dX1_addPlainest_39 (by decide) (by omega) (by omega) (fun hc39 => absurd hc39 (by omega)) (fun hc39 => ?_)
      refine C.iload dX1_addPlainest_42 rfl ?_
      refine C.ic dX1_addPlainest_44 ?_
      refine C.iand dX1_addPlainest_45 ?_
      rw [wc4 w hw8]
      refine C.if_eqI (tgt := 53) dX1_addPlainest_46 (by decide) (by omega) (fun hc46 => ?_) (fun hc46 => ?_)
      · refine C.ic dX1_addPlainest_53 ?_
        refine C.topI (b := b2i (wcP w)) (by omega) ?_
        refine C.istore dX1_addPlainest_54 (by decide) rfl ?_
        exact j56 _ _ _ _
      · refine C.ic dX1_addPlainest_49 ?_
        refine C.goto (tgt := 54) dX1_addPlainest_50 (by decide) ?_
        refine C.topI (b := b2i (wcP w)) (by omega) ?_
        refine C.istore dX1_addPlainest_54 (by decide) rfl ?_
        exact j56 _ _ _ _
  have j16 : ∀ (ce sl ke : Nat) (L1 : List Nat) (f1 : Nat → AC), Fo L f L1 f1 → (canE x = true → SW L1 f1 ke (ezS x)) → ce + 20 ≤ mc → sl + 205 ≤ ms → X ce sl L1 f1 16 [some (.ref lt), some (.ref k), some (.ref ke), none, none, none, none, none, none, none, none, none] [] := by
    intro ce sl ke L1 f1 hF hke hce hsl
    have hx1 := hx.keep hF.p
    obtain ⟨hSx, -⟩ := hx1.a29
    have M := s_price (d := d - 1) (n := x.1.1.length) (by omega) (by omega) hSx hxo
    have hP := prS_rng (n := x.1.1.length) (by omega) hSx hxo
    have hv := wcV_ok (w := 0) hxo rfl
    change wcV 0 x = prS x x.1.1.length at hv
    have hcs := prS_csS hxo
    obtain ⟨⟨hkL, hk2⟩, e0, w0, u0, hfk, ⟨he0, -, g0, hfe0, hg0⟩, -⟩ := hSx
    rw [← hv] at M hP hcs
    refine C.aload_n dX1_addPlainest_16 rfl ?_
    refine C.astore_n dX1_addPlainest_17 (by decide) rfl ?_
    refine C.ic dX1_addPlainest_18 ?_
    refine C.istore dX1_addPlainest_19 (by decide) rfl ?_
    refine C.aload_n dX1_addPlainest_21 rfl ?_
    refine C.aload_n dX1_addPlainest_22 rfl ?_
    refine C.getf gf_X1_43 dX1_addPlainest_23 hkL hfk rfl ?_
    refine C.alenI dX1_addPlainest_26 he0 hfe0 (by decide) ?_
    refine C.callV (M) cw_X3_price ml_X1_82 im_X3_price sl_X3_price dX1_addPlainest_27 hkL hfk rfl rfl (by omega) (by omega) (by omega) (Nat.le_of_ble_eq_true rfl) rfl (fun r27 L27 f27 hR27 => ?_)
    obtain ⟨rfl, hL9, hf9⟩ := hR27
    rw [hL9, hf9]
    clear hL9 hf9
    refine C.istore dX1_addPlainest_30 (by decide) rfl ?_
    refine C.ic dX1_addPlainest_32 ?_
    refine C.istore dX1_addPlainest_33 (by decide) rfl ?_
    skip
    exact loop 7 1 L1 f1 _ _ ke k 0 (by omega) (by omega) hF hke (by omega) rfl hx1 (by omega) (fun i hi _ => by
      have : i = 0 := by omega
      subst this
      omega) (by omega) (by omega) _ _ _ _ _
  obtain ⟨hkL, -, fs, hfk⟩ := hx.obj
  obtain ⟨D, hS, -, hD⟩ := id hx
  have M1 := s_canEase (d := d - 1) hS
  cases hc : canE x with
  | false =>
    rw [hc] at M1
    refine C.aload_n dX1_addPlainest_0 rfl ?_
    refine C.callV (M1) cw_X3_canEase ml_X1_76 im_X3_canEase sl_X3_canEase dX1_addPlainest_1 hkL hfk rfl rfl (by omega) (by omega) (by omega) (Nat.le_of_ble_eq_true rfl) rfl (fun r1 L1 f1 hR1 => ?_)
    obtain ⟨rfl, hL9, hf9⟩ := hR1
    rw [hL9, hf9]
    clear hL9 hf9
    refine C.if_eqI (tgt := 14) dX1_addPlainest_4 (by decide) (by decide) (fun hc4 => ?_) (fun hc4 => absurd hc4 (by decide))
    refine C.aload_n dX1_addPlainest_14 rfl ?_
    refine C.astore_n dX1_addPlainest_15 (by decide) rfl ?_
    exact j16 _ _ k L f Fo.rf (fun h => by rw [hc] at h; cases h) (by omega) (by omega)
  | true =>
    rw [hc] at M1
    have M2 := s_eased (d := d - 1) hN (by omega) (by omega) hS hxo hc hlv hlen
    refine C.aload_n dX1_addPlainest_0 rfl ?_
    refine C.callV (M1) cw_X3_canEase ml_X1_76 im_X3_canEase sl_X3_canEase dX1_addPlainest_1 hkL hfk rfl rfl (by omega) (by omega) (by omega) (Nat.le_of_ble_eq_true rfl) rfl (fun r1 L1 f1 hR1 => ?_)
    obtain ⟨rfl, hL9, hf9⟩ := hR1
    rw [hL9, hf9]
    clear hL9 hf9
    refine C.if_eqI (tgt := 14) dX1_addPlainest_4 (by decide) (by decide) (fun hc4 => absurd hc4 (by decide)) (fun hc4 => ?_)
    refine C.aload_n dX1_addPlainest_7 rfl ?_
    refine C.callV (M2) cw_X3_eased ml_X1_79 im_X3_eased sl_X3_eased dX1_addPlainest_8 hkL hfk rfl rfl (by omega) (by omega) (by omega) (Nat.le_of_ble_eq_true rfl) rfl (fun r8 L8 f8 hR8 => ?_)
    obtain ⟨q, rfl, hS9, hF9⟩ := hR8
    refine C.goto (tgt := 15) dX1_addPlainest_11 (by decide) ?_
    refine C.astore_n dX1_addPlainest_15 (by decide) rfl ?_
    exact j16 _ _ q _ _ hF9 (fun _ => ⟨_, hS9, hxo.ezS, by show _ + 0 ≤ 29; omega⟩) (by omega) (by omega)
/-- cells and slots of making one sentence plain -/
def cE (x : Sen) : Nat := kc (ezT x.2.2.1 x.2.2.2) + 30
def sE (N : Nat) (x : Sen) : Nat := ks N (ezT x.2.2.1 x.2.2.2) + N + 240
set_option maxHeartbeats 1000000 in
theorem t_becomePlainest {N lt2 e2 : Nat} {ps2 : List (Nat × Sen)} (hN : N < 900) (hd : 41 ≤ d) (h : LtAt L f lt e ps) (h2 : LtAt L f lt2 e2 ps2) (hn1 : lt2 ≠ lt) (hn2 : lt2 ≠ lt + 1) (hee : e2 = e → e2 = 17) (hl : ps2.length ≤ 8) (hlv : ∀ p ∈ ps2, lvs (ezT p.2.2.2.1 p.2.2.2.2) ≤ N) (hlen : ∀ p ∈ ps2, (cdO (ezO p.2.2.2.1 p.2.2.2.2)).length ≤ 400) : AM yX1_becomePlainest cX1_becomePlainest 3 none d ((ps2.map (fun p => cE p.2)).sum) ((ps2.map (fun p => sE N p.2)).sum) [.ref lt, .ref lt2] L f (LtPo L f lt e none ((ps2.map (fun p => p.2)).flatMap plL)) := by
  have M := lt_clear (d := d - 1) h
  have hh := h
  have h36 := h.1.1
  obtain ⟨⟨-, hlt, hflt⟩, ⟨cap, hls⟩, hsw⟩ := h
  obtain ⟨hkL, -, ⟨m, n, hfk⟩, -⟩ := hls.obj
  generalize hmc : (ps2.map (fun p => cE p.2)).sum = mc
  generalize hms : (ps2.map (fun p => sE N p.2)).sum = ms
  refine AM.of (by decide +kernel) (by simp [Value.category]) (Nat.le_of_ble_eq_true rfl) false (fun h => by cases h) (fun X C => ?_)
  have loop : ∀ (n i : Nat) (L1 : List Nat) (f1 : Nat → AC) (ce sl e1 : Nat) (ps1 : List (Nat × Sen)), i + n = ps2.length → ps1.map (fun p => p.2) = ((ps2.map (fun p => p.2)).take i).flatMap plL → LtAt L1 f1 lt e1 ps1 → LtAt L1 f1 lt2 e2 ps2 → FqL (lt + 1) e L f L1 f1 → (e1 = e ∨ (e1 ∉ L ∧ 2000 ≤ e1)) → (e2 = e1 → e2 = 17) → ce + ((ps2.drop i).map (fun p => cE p.2)).sum ≤ mc → sl + ((ps2.drop i).map (fun p => sE N p.2)).sum ≤ ms → X ce sl L1 f1 9 [some (.ref lt), some (.ref lt2), some (.int (iI i))] [] := by
    intro n
    induction n with
    | zero =>
      intro i L1 f1 ce sl e1 ps1 hi hps hA hB hF he1 he2 hce hsl
      have M1 := t_size (d := d - 1) (by omega) hB
      obtain ⟨-, hlt2, hflt2⟩ := hB.1
      rw [List.take_of_length_le (by rw [List.length_map]; omega)] at hps
      refine C.iload_n dX1_becomePlainest_9 rfl ?_
      refine C.aload_n dX1_becomePlainest_10 rfl ?_
      refine C.callV (M1) cw_X1_size ml_X1_35 im_X1_size sl_X1_size dX1_becomePlainest_11 hlt2 hflt2 rfl rfl (by omega) (by omega) (by omega) (Nat.le_of_ble_eq_true rfl) rfl (fun r11 L11 f11 hR11 => ?_)
      obtain ⟨rfl, hL9, hf9⟩ := hR11
      rw [hL9, hf9]
      clear hL9 hf9
      refine C.icmp_geI (tgt := 32) dX1_becomePlainest_14 (by decide) (by omega) (by omega) (fun hc14 => ?_) (fun hc14 => absurd hc14 (by omega))
      refine C.vret rfl dX1_becomePlainest_32 (by omega) (by omega) ⟨rfl, e1, ps1, hps, hA, hF, he1⟩
      skip
    | succ n ih =>
      intro i L1 f1 ce sl e1 ps1 hi hps hA hB hF he1 he2 hce hsl
      have M1 := t_size (d := d - 1) (by omega) hB
      have hdr : ps2.drop i = ps2[i]'(by omega) :: ps2.drop (i + 1) := List.drop_eq_getElem_cons _
      have hpi : ps2[i]? = some (ps2[i]'(by omega)) := List.getElem?_eq_getElem _
      generalize ps2[i]'(by omega) = p at hpi hdr
      rw [hdr, List.map_cons, List.sum_cons] at hce hsl
      have M2 := t_at (d := d - 1) (by omega) hB hpi
      have hpm := List.mem_of_getElem? hpi
      have hl1 : ps1.length ≤ 3 * i := by
        have h1 := congrArg List.length hps
        rw [List.length_map] at h1
        have h2 := flat_len (xs := (ps2.map (fun p => p.2)).take i) (fun x hx => by
          obtain ⟨q, hq, rfl⟩ := List.mem_map.mp (List.mem_of_mem_take hx)
          exact (hB.2.2 q hq).a29.2)
        rw [List.length_take] at h2
        omega
      have M3 := t_addPlainest (d := d - 1) hN (by omega) hA (hB.2.2 p hpm) (by omega) (hlv p hpm) (hlen p hpm)
      obtain ⟨-, hlt1, hflt1⟩ := hA.1
      obtain ⟨-, hlt2, hflt2⟩ := hB.1
      obtain ⟨cap1, hls1⟩ := hA.2.1
      obtain ⟨cap2, hls2⟩ := hB.2.1
      refine C.iload_n dX1_becomePlainest_9 rfl ?_
      refine C.aload_n dX1_becomePlainest_10 rfl ?_
      refine C.callV (M1) cw_X1_size ml_X1_35 im_X1_size sl_X1_size dX1_becomePlainest_11 hlt2 hflt2 rfl rfl (by omega) (by omega) (by omega) (Nat.le_of_ble_eq_true rfl) rfl (fun r11 L11 f11 hR11 => ?_)
      obtain ⟨rfl, hL9, hf9⟩ := hR11
      rw [hL9, hf9]
      clear hL9 hf9
      refine C.icmp_geI (tgt := 32) dX1_becomePlainest_14 (by decide) (by omega) (by omega) (fun hc14 => absurd hc14 (by omega)) (fun hc14 => ?_)
      refine C.aload_n dX1_becomePlainest_17 rfl ?_
      refine C.aload_n dX1_becomePlainest_18 rfl ?_
      refine C.iload_n dX1_becomePlainest_19 rfl ?_
      refine C.callV (M2) cw_X1_at ml_X1_36 im_X1_at sl_X1_at dX1_becomePlainest_20 hlt2 hflt2 rfl rfl (by omega) (by omega) (by omega) (Nat.le_of_ble_eq_true rfl) rfl (fun r20 L20 f20 hR20 => ?_)
      obtain ⟨rfl, hL9, hf9⟩ := hR20
      rw [hL9, hf9]
      clear hL9 hf9
      refine C.callV (M3) cw_X1_addPlainest ml_X1_86 im_X1_addPlainest sl_X1_addPlainest dX1_becomePlainest_23 hlt1 hflt1 rfl rfl (by omega) (by unfold cE at hce; omega) (by unfold sE at hsl; omega) (Nat.le_of_ble_eq_true rfl) rfl (fun r23 L23 f23 hR23 => ?_)
      obtain ⟨rfl, e3, ps3, hps3, hA3, hF3, he3⟩ := hR23
      refine C.iincI dX1_becomePlainest_26 rfl (by decide) rfl ?_
      refine C.goto (tgt := 9) dX1_becomePlainest_29 (by decide) ?_
      skip
      exact ih (i + 1) L23 f23 _ _ e3 ps3 (by omega) (by rw [hps3, hps, List.take_add_one, List.getElem?_map, hpi, List.flatMap_append]; simp) hA3 (hB.keepQ hls1 hF3 (by omega) hn2 (by omega) he2) (hF.tr hF3 he1) (by
        rcases he3 with rfl | ⟨h1, h2⟩
        · exact he1
        · exact Or.inr ⟨fun h => h1 (hF.1 _ h), h2⟩) (fun h => by
        rcases he3 with rfl | ⟨h1, -⟩
        · exact he2 h
        · exact absurd (h ▸ hls2.obj.2.1) h1) (by unfold cE at hce ⊢; omega) (by unfold sE at hsl ⊢; omega)
  refine C.aload_n dX1_becomePlainest_0 rfl ?_
  refine C.getf gf_X1_12 dX1_becomePlainest_1 hlt hflt rfl ?_
  refine C.callV (M) cw_Jx4a65c_clear_da8c8 ml_X1_28 im_Jx4a65c_clear_da8c8 sl_Jx4a65c_clear_da8c8 dX1_becomePlainest_4 hkL hfk rfl rfl (by omega) (Nat.zero_le _) (Nat.zero_le _) (Nat.le_of_ble_eq_true rfl) rfl (fun r4 L4 f4 hR4 => ?_)
  obtain ⟨rfl, rfl, h3, h4⟩ := hR4
  refine C.ic dX1_becomePlainest_7 ?_
  refine C.istore_n dX1_becomePlainest_8 (by decide) rfl ?_
  skip
  exact loop ps2.length 0 _ _ _ _ e [] (by omega) rfl h3 (h2.keepQ hls h4 (by omega) hn2 (by omega) hee) h4 (Or.inl rfl) hee (by rw [List.drop_zero]; omega) (by rw [List.drop_zero]; omega)
end PLAIN2
