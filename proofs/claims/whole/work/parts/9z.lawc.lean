/-! the law's cases -/
abbrev lwV (i : Int) (v5 v6 : Option Value) : List (Option Value) := [some (.ref 19), some (.ref 0), some (.ref 20), some (.ref 35), some (.int (iI i)), v5, v6]
theorem lg_same (x : Int64) : lg_cmp x x = iI 0 := by
  unfold lg_cmp
  rw [if_neg (by simp), if_pos rfl]
  rfl
section LAWC
variable {n : Nat} {sx : Nat → Int} {X : XT} {ce sl t : Nat} {L : List Nat} {f : Nat → AC} {i : Int} {v5 v6 : Option Value}
theorem law_feed (C0 : Lx n sx 1300 601024 7293034 X) (hn : n ≤ 3072) (hi : 0 ≤ i ∧ i + 6 ≤ n) (hce : ce + 1173 ≤ 601024) (hsl : sl + 14047 ≤ 7293034) (Q : Prd (fun P => AM yX8_feed cX8_feed 6 (some .int) 1000 0 0 [.ref 0, .int (iI (sx (i + 1).toNat)), .int (iI (sx (i + 2).toNat)), .int (iI (sx (i + 3).toNat)), .int (iI (sx (i + 4).toNat)), .int (iI (sx (i + 5).toNat))] L f P) (Pdr t yX9_feed cX9_feed 7 (some .int) [.int (iI (sx (i + 1).toNat)), .int (iI (sx (i + 2).toNat)), .int (iI (sx (i + 3).toNat)), .int (iI (sx (i + 4).toNat)), .int (iI (sx (i + 5).toNat))])) (h0L : 0 ∈ L) {fs : List Value} (h0f : f 0 = .inr (10, fs)) (kk : ∀ L f v5 v6, RI (t + 1) L f → X (ce + 1173) (sl + 14047) L f 1076 (lwV i v5 v6) []) : X ce sl L f 128 (lwV i v5 v6) [] := by
  have C := C0.C
  obtain ⟨PoW, M, hP⟩ := Q
  refine C.aload_n dL_law_128 rfl ?_
  refine C.aload_n dL_law_129 rfl ?_
  refine C.iload dL_law_130 rfl ?_
  refine C.ic dL_law_132 ?_
  refine C.iaddI dL_law_133 ?_
  refine C0.scr dL_law_134 (by omega) (by omega) hn ?_
  refine C.aload_n dL_law_135 rfl ?_
  refine C.iload dL_law_136 rfl ?_
  refine C.ic dL_law_138 ?_
  refine C.iaddI dL_law_139 ?_
  refine C0.scr dL_law_140 (by omega) (by omega) hn ?_
  refine C.aload_n dL_law_141 rfl ?_
  refine C.iload dL_law_142 rfl ?_
  refine C.ic dL_law_144 ?_
  refine C.iaddI dL_law_145 ?_
  refine C0.scr dL_law_146 (by omega) (by omega) hn ?_
  refine C.aload_n dL_law_147 rfl ?_
  refine C.iload dL_law_148 rfl ?_
  refine C.ic dL_law_150 ?_
  refine C.iaddI dL_law_151 ?_
  refine C0.scr dL_law_152 (by omega) (by omega) hn ?_
  refine C.aload_n dL_law_153 rfl ?_
  refine C.iload dL_law_154 rfl ?_
  refine C.ic dL_law_156 ?_
  refine C.iaddI dL_law_157 ?_
  refine C0.scr dL_law_158 (by omega) (by omega) hn ?_
  skip
  refine C.callV M cw_X8_feed ml_L_67 im_X8_feed sl_X8_feed dL_law_159 h0L h0f rfl rfl (by decide) (by omega) (by omega) (Nat.le_of_ble_eq_true rfl) rfl (fun r L1 f1 hR => ?_)
  obtain ⟨w, sf, sa, rfl, hL, hov, M1⟩ := hP _ _ _ hR
  refine C.aload_n dL_law_162 rfl ?_
  refine C.aload_n dL_law_163 rfl ?_
  refine C.iload dL_law_164 rfl ?_
  refine C.ic dL_law_166 ?_
  refine C.iaddI dL_law_167 ?_
  refine C0.scr dL_law_168 (by omega) (by omega) hn ?_
  refine C.aload_n dL_law_169 rfl ?_
  refine C.iload dL_law_170 rfl ?_
  refine C.ic dL_law_172 ?_
  refine C.iaddI dL_law_173 ?_
  refine C0.scr dL_law_174 (by omega) (by omega) hn ?_
  refine C.aload_n dL_law_175 rfl ?_
  refine C.iload dL_law_176 rfl ?_
  refine C.ic dL_law_178 ?_
  refine C.iaddI dL_law_179 ?_
  refine C0.scr dL_law_180 (by omega) (by omega) hn ?_
  refine C.aload_n dL_law_181 rfl ?_
  refine C.iload dL_law_182 rfl ?_
  refine C.ic dL_law_184 ?_
  refine C.iaddI dL_law_185 ?_
  refine C0.scr dL_law_186 (by omega) (by omega) hn ?_
  refine C.aload_n dL_law_187 rfl ?_
  refine C.iload dL_law_188 rfl ?_
  refine C.ic dL_law_190 ?_
  refine C.iaddI dL_law_191 ?_
  refine C0.scr dL_law_192 (by omega) (by omega) hn ?_
  skip
  have M2 := M1 L1 f1 hL
  rw [← hov] at M2
  refine C.callV M2 cw_X9_feed ml_L_71 im_X9_feed sl_X9_feed dL_law_193 (hL 20 (by decide)) (show f1 20 = .inr (11, mo sf) from congrFun hov 20) rfl rfl (by decide) (by omega) (by omega) (Nat.le_of_ble_eq_true rfl) rfl (fun r2 L2 f2 hR2 => ?_)
  obtain ⟨sf2, sa2, ⟨rfl, hRI⟩, rfl, rfl⟩ := hR2
  refine C.icmp_eq (tgt := 1076) dL_law_196 (by decide) (fun _ => ?_) (fun h => absurd rfl h)
  exact C.wide (by omega) (by omega) (kk _ _ _ _ hRI)
theorem law_end (C0 : Lx n sx 1300 601024 7293034 X) (hn : n ≤ 3072) (hi : 0 ≤ i ∧ i + 6 ≤ n) (hce : ce + 1173 ≤ 601024) (hsl : sl + 14047 ≤ 7293034) (Q : Prd (fun P => AM yX8_end cX8_end 2 (some .boolean) 1000 0 0 [.ref 0, .int (iI (sx (i + 1).toNat))] L f P) (Pdr t yX9_end cX9_end 2 (some .boolean) [.int (iI (sx (i + 1).toNat))])) (h0L : 0 ∈ L) {fs : List Value} (h0f : f 0 = .inr (10, fs)) (kk : ∀ L f v5 v6, RI (t + 1) L f → X (ce + 1173) (sl + 14047) L f 1076 (lwV i v5 v6) []) : X ce sl L f 201 (lwV i v5 v6) [] := by
  have C := C0.C
  obtain ⟨PoW, M, hP⟩ := Q
  refine C.aload_n dL_law_201 rfl ?_
  refine C.aload_n dL_law_202 rfl ?_
  refine C.iload dL_law_203 rfl ?_
  refine C.ic dL_law_205 ?_
  refine C.iaddI dL_law_206 ?_
  refine C0.scr dL_law_207 (by omega) (by omega) hn ?_
  skip
  refine C.callV M cw_X8_end ml_L_72 im_X8_end sl_X8_end dL_law_208 h0L h0f rfl rfl (by decide) (by omega) (by omega) (Nat.le_of_ble_eq_true rfl) rfl (fun r L1 f1 hR => ?_)
  obtain ⟨w, sf, sa, rfl, hL, hov, M1⟩ := hP _ _ _ hR
  refine C.aload_n dL_law_211 rfl ?_
  refine C.aload_n dL_law_212 rfl ?_
  refine C.iload dL_law_213 rfl ?_
  refine C.ic dL_law_215 ?_
  refine C.iaddI dL_law_216 ?_
  refine C0.scr dL_law_217 (by omega) (by omega) hn ?_
  skip
  have M2 := M1 L1 f1 hL
  rw [← hov] at M2
  refine C.callV M2 cw_X9_end ml_L_75 im_X9_end sl_X9_end dL_law_218 (hL 20 (by decide)) (show f1 20 = .inr (11, mo sf) from congrFun hov 20) rfl rfl (by decide) (by omega) (by omega) (Nat.le_of_ble_eq_true rfl) rfl (fun r2 L2 f2 hR2 => ?_)
  obtain ⟨sf2, sa2, ⟨rfl, hRI⟩, rfl, rfl⟩ := hR2
  refine C.icmp_eq (tgt := 1076) dL_law_221 (by decide) (fun _ => ?_) (fun h => absurd rfl h)
  exact C.wide (by omega) (by omega) (kk _ _ _ _ hRI)
theorem law_letter (C0 : Lx n sx 1300 601024 7293034 X) (hn : n ≤ 3072) (hi : 0 ≤ i ∧ i + 6 ≤ n) (hce : ce + 1173 ≤ 601024) (hsl : sl + 14047 ≤ 7293034) (Q : Prs (fun d2 mc2 ms2 P => AW yL_letter cL_letter 3 (some .int) [(0, 8, 11, 13)] d2 mc2 ms2 [.ref 0, .ref 35] L f P) (Pst t yX9_letter cX9_letter 3 (some .int) [] Bny)) (kk : ∀ L f v5 v6, RI (t + 1) L f → X (ce + 1173) (sl + 14047) L f 1076 (lwV i v5 v6) []) : X ce sl L f 226 (lwV i v5 v6) [] := by
  have C := C0.C
  obtain ⟨d2, mc2, ms2, PoW, hd2, hm2, hs2, M, hP⟩ := Q
  refine C.aload_n dL_law_226 rfl ?_
  refine C.aload_n dL_law_227 rfl ?_
  skip
  refine C0.callW (k := 2) M (om_wsL_law0_r7 _ (List.mem_of_getElem? (i := 2) rfl)) (om_wsL_law0_r7 _ (List.mem_of_getElem? (i := 3) rfl)) ⟨by decide +kernel, by decide +kernel, by decide +kernel⟩ (by decide) ml_L_76 sm_L_letter dL_law_228 rfl hd2 (by omega) (by omega) (Nat.le_of_ble_eq_true rfl) rfl (fun r L1 f1 hR => ?_)
  obtain ⟨code, w, g, sf, sa, rfl, hL, h35, hg0, hcd, hov, M1⟩ := hP _ _ _ hR
  refine C.istore dL_law_231 (by decide) rfl ?_
  refine C.aload_n dL_law_233 rfl ?_
  skip
  have M2 := M1 L1 f1 hL
  rw [← hov] at M2
  refine C.callV M2 cw_X9_letter ml_L_81 im_X9_letter sl_X9_letter dL_law_234 (hL 20 (by decide)) (show f1 20 = .inr (11, mo sf) from congrFun hov 20) rfl rfl (by decide) (by omega) (by omega) (Nat.le_of_ble_eq_true rfl) rfl (fun r2 L2 f2 hR2 => ?_)
  obtain ⟨sf2, sa2, ⟨⟨w2, rfl, hw, hb⟩, hs0, hRI⟩, rfl, rfl⟩ := hR2
  refine C.istore dL_law_237 (by decide) rfl ?_
  refine C.aload_n dL_law_239 rfl ?_
  skip
  refine C.mcall hL (m_thrown (d := 1200)) cw_X9_thrown ml_L_82 im_X9_thrown sl_X9_thrown dL_law_240 rfl rfl (by decide) (by omega) (by omega) (Nat.le_of_ble_eq_true rfl) rfl (fun r3 sf3 sa3 hR3 => ?_)
  obtain ⟨rfl, hs3, ha3⟩ := hR3
  rw [hs3, ha3, hs0]
  refine C.iload dL_law_243 rfl ?_
  refine C.icmp_eq (tgt := 250) dL_law_245 (by decide) (fun _ => ?_) (fun h => absurd rfl h)
  skip
  by_cases hc0 : code = 0
  · refine C.iload dL_law_250 rfl ?_
    refine C.if_neI (tgt := 267) dL_law_252 (by decide) (by omega) (fun hc252 => absurd hc252 (fun h => h hc0)) (fun hc252 => ?_)
    skip
    have hg := hg0 hc0
    have hw := hw hc0
    subst hw
    refine C.aload_n dL_law_255 rfl ?_
    refine C.ic dL_law_256 ?_
    refine C.lald0 dL_law_257 (hL 35 (by decide)) h35 ?_
    refine C.iload dL_law_258 rfl ?_
    refine C.i2l dL_law_260 ?_
    refine C.lcmp dL_law_261 ?_
    rw [hg, lg_same]
    refine C.if_eqI (tgt := 267) dL_law_262 (by decide) (by decide) (fun hc262 => ?_) (fun hc262 => absurd hc262 (by decide))
    refine C.goto (tgt := 1076) dL_law_267 (by decide) ?_
    exact C.wide (by omega) (by omega) (kk _ _ _ _ hRI)
  · refine C.iload dL_law_250 rfl ?_
    refine C.if_neI (tgt := 267) dL_law_252 (by decide) (by omega) (fun hc252 => ?_) (fun hc252 => absurd hc252 (fun h => hc0 h))
    refine C.goto (tgt := 1076) dL_law_267 (by decide) ?_
    exact C.wide (by omega) (by omega) (kk _ _ _ _ hRI)
theorem law_fault (C0 : Lx n sx 1300 601024 7293034 X) (hn : n ≤ 3072) (hi : 0 ≤ i ∧ i + 6 ≤ n) (hce : ce + 1173 ≤ 601024) (hsl : sl + 14047 ≤ 7293034) (Q : Prd (fun P => AM yX8_fault cX8_fault 1 (some .int) 1000 0 0 [.ref 0] L f P) (Pdr t yX9_fault cX9_fault 1 (some .int) [])) (h0L : 0 ∈ L) {fs : List Value} (h0f : f 0 = .inr (10, fs)) (kk : ∀ L f v5 v6, RI (t + 1) L f → X (ce + 1173) (sl + 14047) L f 1076 (lwV i v5 v6) []) : X ce sl L f 270 (lwV i v5 v6) [] := by
  have C := C0.C
  obtain ⟨PoW, M, hP⟩ := Q
  refine C.aload_n dL_law_270 rfl ?_
  skip
  refine C.callV M cw_X8_fault ml_L_85 im_X8_fault sl_X8_fault dL_law_271 h0L h0f rfl rfl (by decide) (by omega) (by omega) (Nat.le_of_ble_eq_true rfl) rfl (fun r L1 f1 hR => ?_)
  obtain ⟨w, sf, sa, rfl, hL, hov, M1⟩ := hP _ _ _ hR
  refine C.aload_n dL_law_274 rfl ?_
  skip
  have M2 := M1 L1 f1 hL
  rw [← hov] at M2
  refine C.callV M2 cw_X9_fault ml_L_88 im_X9_fault sl_X9_fault dL_law_275 (hL 20 (by decide)) (show f1 20 = .inr (11, mo sf) from congrFun hov 20) rfl rfl (by decide) (by omega) (by omega) (Nat.le_of_ble_eq_true rfl) rfl (fun r2 L2 f2 hR2 => ?_)
  obtain ⟨sf2, sa2, ⟨rfl, hRI⟩, rfl, rfl⟩ := hR2
  refine C.icmp_eq (tgt := 1076) dL_law_278 (by decide) (fun _ => ?_) (fun h => absurd rfl h)
  exact C.wide (by omega) (by omega) (kk _ _ _ _ hRI)
theorem law_part (C0 : Lx n sx 1300 601024 7293034 X) (hn : n ≤ 3072) (hi : 0 ≤ i ∧ i + 6 ≤ n) (hce : ce + 1173 ≤ 601024) (hsl : sl + 14047 ≤ 7293034) (Q : Prs (fun d2 mc2 ms2 P => AW yL_part cL_part 4 (some .int) [(0, 16, 19, 19), (0, 16, 22, 21)] d2 mc2 ms2 [.ref 0, .int (iI (sx (i + 1).toNat)), .ref 35] L f P) (Pst t yX9_part cX9_part 5 (some .boolean) [.int (iI (sx (i + 1).toNat))] B01)) (kk : ∀ L f v5 v6, RI (t + 1) L f → X (ce + 1173) (sl + 14047) L f 1076 (lwV i v5 v6) []) : X ce sl L f 283 (lwV i v5 v6) [] := by
  have C := C0.C
  obtain ⟨d2, mc2, ms2, PoW, hd2, hm2, hs2, M, hP⟩ := Q
  refine C.aload_n dL_law_283 rfl ?_
  refine C.aload_n dL_law_284 rfl ?_
  refine C.iload dL_law_285 rfl ?_
  refine C.ic dL_law_287 ?_
  refine C.iaddI dL_law_288 ?_
  refine C0.scr dL_law_289 (by omega) (by omega) hn ?_
  refine C.aload_n dL_law_290 rfl ?_
  skip
  refine C0.callW (k := 3) M (om_wsL_law0_r7 _ (List.mem_of_getElem? (i := 2) rfl)) (om_wsL_law0_r26 _ (List.mem_of_getElem? (i := 4) rfl)) ⟨by decide +kernel, by decide +kernel, by decide +kernel⟩ (by decide) ml_L_89 sm_L_part dL_law_291 rfl hd2 (by omega) (by omega) (Nat.le_of_ble_eq_true rfl) rfl (fun r L1 f1 hR => ?_)
  obtain ⟨code, w, g, sf, sa, rfl, hL, h35, hg0, hcd, hov, M1⟩ := hP _ _ _ hR
  refine C.istore dL_law_294 (by decide) rfl ?_
  refine C.aload_n dL_law_296 rfl ?_
  refine C.aload_n dL_law_297 rfl ?_
  refine C.iload dL_law_298 rfl ?_
  refine C.ic dL_law_300 ?_
  refine C.iaddI dL_law_301 ?_
  refine C0.scr dL_law_302 (by omega) (by omega) hn ?_
  skip
  have M2 := M1 L1 f1 hL
  rw [← hov] at M2
  refine C.callV M2 cw_X9_part ml_L_92 im_X9_part sl_X9_part dL_law_303 (hL 20 (by decide)) (show f1 20 = .inr (11, mo sf) from congrFun hov 20) rfl rfl (by decide) (by omega) (by omega) (Nat.le_of_ble_eq_true rfl) rfl (fun r2 L2 f2 hR2 => ?_)
  obtain ⟨sf2, sa2, ⟨⟨w2, rfl, hw, hb⟩, hs0, hRI⟩, rfl, rfl⟩ := hR2
  refine C.istore dL_law_306 (by decide) rfl ?_
  refine C.aload_n dL_law_308 rfl ?_
  skip
  refine C.mcall hL (m_thrown (d := 1200)) cw_X9_thrown ml_L_82 im_X9_thrown sl_X9_thrown dL_law_309 rfl rfl (by decide) (by omega) (by omega) (Nat.le_of_ble_eq_true rfl) rfl (fun r3 sf3 sa3 hR3 => ?_)
  obtain ⟨rfl, hs3, ha3⟩ := hR3
  rw [hs3, ha3, hs0]
  refine C.iload dL_law_312 rfl ?_
  refine C.icmp_eq (tgt := 319) dL_law_314 (by decide) (fun _ => ?_) (fun h => absurd rfl h)
  skip
  by_cases hc0 : code = 0
  · refine C.iload dL_law_319 rfl ?_
    refine C.if_neI (tgt := 343) dL_law_321 (by decide) (by omega) (fun hc321 => absurd hc321 (fun h => h hc0)) (fun hc321 => ?_)
    skip
    have hg := hg0 hc0
    have hw := hw hc0
    subst hw
    rcases hb with rfl | rfl
    · refine C.aload_n dL_law_324 rfl ?_
      refine C.ic dL_law_325 ?_
      refine C.lald0 dL_law_326 (hL 35 (by decide)) h35 ?_
      refine C.iload dL_law_327 rfl ?_
      refine C.if_eqI (tgt := 336) dL_law_329 (by decide) (by decide) (fun hc329 => ?_) (fun hc329 => absurd hc329 (by decide))
      refine C.lconst dL_law_336 rfl ?_
      refine C.lcmp dL_law_337 ?_
      rw [hg]
      change X _ _ _ _ _ _ (Value.int (lg_cmp (iI 0).toInt64 0) :: _)
      rw [show lg_cmp (iI 0).toInt64 0 = iI 0 from by decide]
      refine C.if_eqI (tgt := 343) dL_law_338 (by decide) (by decide) (fun hc338 => ?_) (fun hc338 => absurd hc338 (by decide))
      refine C.goto (tgt := 1076) dL_law_343 (by decide) ?_
      exact C.wide (by omega) (by omega) (kk _ _ _ _ hRI)
    · refine C.aload_n dL_law_324 rfl ?_
      refine C.ic dL_law_325 ?_
      refine C.lald0 dL_law_326 (hL 35 (by decide)) h35 ?_
      refine C.iload dL_law_327 rfl ?_
      refine C.if_eqI (tgt := 336) dL_law_329 (by decide) (by decide) (fun hc329 => absurd hc329 (by decide)) (fun hc329 => ?_)
      refine C.lconst dL_law_332 rfl ?_
      refine C.goto (tgt := 337) dL_law_333 (by decide) ?_
      refine C.lcmp dL_law_337 ?_
      rw [hg]
      change X _ _ _ _ _ _ (Value.int (lg_cmp (iI 1).toInt64 1) :: _)
      rw [show lg_cmp (iI 1).toInt64 1 = iI 0 from by decide]
      refine C.if_eqI (tgt := 343) dL_law_338 (by decide) (by decide) (fun hc338 => ?_) (fun hc338 => absurd hc338 (by decide))
      refine C.goto (tgt := 1076) dL_law_343 (by decide) ?_
      exact C.wide (by omega) (by omega) (kk _ _ _ _ hRI)
  · refine C.iload dL_law_319 rfl ?_
    refine C.if_neI (tgt := 343) dL_law_321 (by decide) (by omega) (fun hc321 => ?_) (fun hc321 => absurd hc321 (fun h => hc0 h))
    refine C.goto (tgt := 1076) dL_law_343 (by decide) ?_
    exact C.wide (by omega) (by omega) (kk _ _ _ _ hRI)
theorem law_melt (C0 : Lx n sx 1300 601024 7293034 X) (hn : n ≤ 3072) (hi : 0 ≤ i ∧ i + 6 ≤ n) (hce : ce + 1173 ≤ 601024) (hsl : sl + 14047 ≤ 7293034) (Q : Prs (fun d2 mc2 ms2 P => AW yL_melt cL_melt 4 (some .int) [(0, 16, 19, 19), (0, 16, 22, 21)] d2 mc2 ms2 [.ref 0, .int (iI (sx (i + 1).toNat)), .ref 35] L f P) (Pst t yX9_melt cX9_melt 6 (some .boolean) [.int (iI (sx (i + 1).toNat))] B01)) (kk : ∀ L f v5 v6, RI (t + 1) L f → X (ce + 1173) (sl + 14047) L f 1076 (lwV i v5 v6) []) : X ce sl L f 346 (lwV i v5 v6) [] := by
  have C := C0.C
  obtain ⟨d2, mc2, ms2, PoW, hd2, hm2, hs2, M, hP⟩ := Q
  refine C.aload_n dL_law_346 rfl ?_
  refine C.aload_n dL_law_347 rfl ?_
  refine C.iload dL_law_348 rfl ?_
  refine C.ic dL_law_350 ?_
  refine C.iaddI dL_law_351 ?_
  refine C0.scr dL_law_352 (by omega) (by omega) hn ?_
  refine C.aload_n dL_law_353 rfl ?_
  skip
  refine C0.callW (k := 3) M (om_wsL_law0_r7 _ (List.mem_of_getElem? (i := 2) rfl)) (om_wsL_law0_r29 _ (List.mem_of_getElem? (i := 0) rfl)) ⟨by decide +kernel, by decide +kernel, by decide +kernel⟩ (by decide) ml_L_93 sm_L_melt dL_law_354 rfl hd2 (by omega) (by omega) (Nat.le_of_ble_eq_true rfl) rfl (fun r L1 f1 hR => ?_)
  obtain ⟨code, w, g, sf, sa, rfl, hL, h35, hg0, hcd, hov, M1⟩ := hP _ _ _ hR
  refine C.istore dL_law_357 (by decide) rfl ?_
  refine C.aload_n dL_law_359 rfl ?_
  refine C.aload_n dL_law_360 rfl ?_
  refine C.iload dL_law_361 rfl ?_
  refine C.ic dL_law_363 ?_
  refine C.iaddI dL_law_364 ?_
  refine C0.scr dL_law_365 (by omega) (by omega) hn ?_
  skip
  have M2 := M1 L1 f1 hL
  rw [← hov] at M2
  refine C.callV M2 cw_X9_melt ml_L_95 im_X9_melt sl_X9_melt dL_law_366 (hL 20 (by decide)) (show f1 20 = .inr (11, mo sf) from congrFun hov 20) rfl rfl (by decide) (by omega) (by omega) (Nat.le_of_ble_eq_true rfl) rfl (fun r2 L2 f2 hR2 => ?_)
  obtain ⟨sf2, sa2, ⟨⟨w2, rfl, hw, hb⟩, hs0, hRI⟩, rfl, rfl⟩ := hR2
  refine C.istore dL_law_369 (by decide) rfl ?_
  refine C.aload_n dL_law_371 rfl ?_
  skip
  refine C.mcall hL (m_thrown (d := 1200)) cw_X9_thrown ml_L_82 im_X9_thrown sl_X9_thrown dL_law_372 rfl rfl (by decide) (by omega) (by omega) (Nat.le_of_ble_eq_true rfl) rfl (fun r3 sf3 sa3 hR3 => ?_)
  obtain ⟨rfl, hs3, ha3⟩ := hR3
  rw [hs3, ha3, hs0]
  refine C.iload dL_law_375 rfl ?_
  refine C.icmp_eq (tgt := 382) dL_law_377 (by decide) (fun _ => ?_) (fun h => absurd rfl h)
  skip
  by_cases hc0 : code = 0
  · refine C.iload dL_law_382 rfl ?_
    refine C.if_neI (tgt := 406) dL_law_384 (by decide) (by omega) (fun hc384 => absurd hc384 (fun h => h hc0)) (fun hc384 => ?_)
    skip
    have hg := hg0 hc0
    have hw := hw hc0
    subst hw
    rcases hb with rfl | rfl
    · refine C.aload_n dL_law_387 rfl ?_
      refine C.ic dL_law_388 ?_
      refine C.lald0 dL_law_389 (hL 35 (by decide)) h35 ?_
      refine C.iload dL_law_390 rfl ?_
      refine C.if_eqI (tgt := 399) dL_law_392 (by decide) (by decide) (fun hc392 => ?_) (fun hc392 => absurd hc392 (by decide))
      refine C.lconst dL_law_399 rfl ?_
      refine C.lcmp dL_law_400 ?_
      rw [hg]
      change X _ _ _ _ _ _ (Value.int (lg_cmp (iI 0).toInt64 0) :: _)
      rw [show lg_cmp (iI 0).toInt64 0 = iI 0 from by decide]
      refine C.if_eqI (tgt := 406) dL_law_401 (by decide) (by decide) (fun hc401 => ?_) (fun hc401 => absurd hc401 (by decide))
      refine C.goto (tgt := 1076) dL_law_406 (by decide) ?_
      exact C.wide (by omega) (by omega) (kk _ _ _ _ hRI)
    · refine C.aload_n dL_law_387 rfl ?_
      refine C.ic dL_law_388 ?_
      refine C.lald0 dL_law_389 (hL 35 (by decide)) h35 ?_
      refine C.iload dL_law_390 rfl ?_
      refine C.if_eqI (tgt := 399) dL_law_392 (by decide) (by decide) (fun hc392 => absurd hc392 (by decide)) (fun hc392 => ?_)
      refine C.lconst dL_law_395 rfl ?_
      refine C.goto (tgt := 400) dL_law_396 (by decide) ?_
      refine C.lcmp dL_law_400 ?_
      rw [hg]
      change X _ _ _ _ _ _ (Value.int (lg_cmp (iI 1).toInt64 1) :: _)
      rw [show lg_cmp (iI 1).toInt64 1 = iI 0 from by decide]
      refine C.if_eqI (tgt := 406) dL_law_401 (by decide) (by decide) (fun hc401 => ?_) (fun hc401 => absurd hc401 (by decide))
      refine C.goto (tgt := 1076) dL_law_406 (by decide) ?_
      exact C.wide (by omega) (by omega) (kk _ _ _ _ hRI)
  · refine C.iload dL_law_382 rfl ?_
    refine C.if_neI (tgt := 406) dL_law_384 (by decide) (by omega) (fun hc384 => ?_) (fun hc384 => absurd hc384 (fun h => hc0 h))
    refine C.goto (tgt := 1076) dL_law_406 (by decide) ?_
    exact C.wide (by omega) (by omega) (kk _ _ _ _ hRI)
theorem law_turn (C0 : Lx n sx 1300 601024 7293034 X) (hn : n ≤ 3072) (hi : 0 ≤ i ∧ i + 6 ≤ n) (hce : ce + 1173 ≤ 601024) (hsl : sl + 14047 ≤ 7293034) (Q : Prs (fun d2 mc2 ms2 P => AW yL_turn cL_turn 4 (some .int) [(0, 16, 19, 19), (0, 16, 22, 21)] d2 mc2 ms2 [.ref 0, .int (iI (sx (i + 1).toNat)), .ref 35] L f P) (Pst t yX9_turn cX9_turn 2 (some .boolean) [.int (iI (sx (i + 1).toNat))] B01)) (kk : ∀ L f v5 v6, RI (t + 1) L f → X (ce + 1173) (sl + 14047) L f 1076 (lwV i v5 v6) []) : X ce sl L f 409 (lwV i v5 v6) [] := by
  have C := C0.C
  obtain ⟨d2, mc2, ms2, PoW, hd2, hm2, hs2, M, hP⟩ := Q
  refine C.aload_n dL_law_409 rfl ?_
  refine C.aload_n dL_law_410 rfl ?_
  refine C.iload dL_law_411 rfl ?_
  refine C.ic dL_law_413 ?_
  refine C.iaddI dL_law_414 ?_
  refine C0.scr dL_law_415 (by omega) (by omega) hn ?_
  refine C.aload_n dL_law_416 rfl ?_
  skip
  refine C0.callW (k := 3) M (om_wsL_law0_r7 _ (List.mem_of_getElem? (i := 2) rfl)) (om_wsL_law0_r30 _ (List.mem_of_getElem? (i := 23) rfl)) ⟨by decide +kernel, by decide +kernel, by decide +kernel⟩ (by decide) ml_L_96 sm_L_turn dL_law_417 rfl hd2 (by omega) (by omega) (Nat.le_of_ble_eq_true rfl) rfl (fun r L1 f1 hR => ?_)
  obtain ⟨code, w, g, sf, sa, rfl, hL, h35, hg0, hcd, hov, M1⟩ := hP _ _ _ hR
  refine C.istore dL_law_420 (by decide) rfl ?_
  refine C.aload_n dL_law_422 rfl ?_
  refine C.aload_n dL_law_423 rfl ?_
  refine C.iload dL_law_424 rfl ?_
  refine C.ic dL_law_426 ?_
  refine C.iaddI dL_law_427 ?_
  refine C0.scr dL_law_428 (by omega) (by omega) hn ?_
  skip
  have M2 := M1 L1 f1 hL
  rw [← hov] at M2
  refine C.callV M2 cw_X9_turn ml_L_98 im_X9_turn sl_X9_turn dL_law_429 (hL 20 (by decide)) (show f1 20 = .inr (11, mo sf) from congrFun hov 20) rfl rfl (by decide) (by omega) (by omega) (Nat.le_of_ble_eq_true rfl) rfl (fun r2 L2 f2 hR2 => ?_)
  obtain ⟨sf2, sa2, ⟨⟨w2, rfl, hw, hb⟩, hs0, hRI⟩, rfl, rfl⟩ := hR2
  refine C.istore dL_law_432 (by decide) rfl ?_
  refine C.aload_n dL_law_434 rfl ?_
  skip
  refine C.mcall hL (m_thrown (d := 1200)) cw_X9_thrown ml_L_82 im_X9_thrown sl_X9_thrown dL_law_435 rfl rfl (by decide) (by omega) (by omega) (Nat.le_of_ble_eq_true rfl) rfl (fun r3 sf3 sa3 hR3 => ?_)
  obtain ⟨rfl, hs3, ha3⟩ := hR3
  rw [hs3, ha3, hs0]
  refine C.iload dL_law_438 rfl ?_
  refine C.icmp_eq (tgt := 445) dL_law_440 (by decide) (fun _ => ?_) (fun h => absurd rfl h)
  skip
  by_cases hc0 : code = 0
  · refine C.iload dL_law_445 rfl ?_
    refine C.if_neI (tgt := 469) dL_law_447 (by decide) (by omega) (fun hc447 => absurd hc447 (fun h => h hc0)) (fun hc447 => ?_)
    skip
    have hg := hg0 hc0
    have hw := hw hc0
    subst hw
    rcases hb with rfl | rfl
    · refine C.aload_n dL_law_450 rfl ?_
      refine C.ic dL_law_451 ?_
      refine C.lald0 dL_law_452 (hL 35 (by decide)) h35 ?_
      refine C.iload dL_law_453 rfl ?_
      refine C.if_eqI (tgt := 462) dL_law_455 (by decide) (by decide) (fun hc455 => ?_) (fun hc455 => absurd hc455 (by decide))
      refine C.lconst dL_law_462 rfl ?_
      refine C.lcmp dL_law_463 ?_
      rw [hg]
      change X _ _ _ _ _ _ (Value.int (lg_cmp (iI 0).toInt64 0) :: _)
      rw [show lg_cmp (iI 0).toInt64 0 = iI 0 from by decide]
      refine C.if_eqI (tgt := 469) dL_law_464 (by decide) (by decide) (fun hc464 => ?_) (fun hc464 => absurd hc464 (by decide))
      refine C.goto (tgt := 1076) dL_law_469 (by decide) ?_
      exact C.wide (by omega) (by omega) (kk _ _ _ _ hRI)
    · refine C.aload_n dL_law_450 rfl ?_
      refine C.ic dL_law_451 ?_
      refine C.lald0 dL_law_452 (hL 35 (by decide)) h35 ?_
      refine C.iload dL_law_453 rfl ?_
      refine C.if_eqI (tgt := 462) dL_law_455 (by decide) (by decide) (fun hc455 => absurd hc455 (by decide)) (fun hc455 => ?_)
      refine C.lconst dL_law_458 rfl ?_
      refine C.goto (tgt := 463) dL_law_459 (by decide) ?_
      refine C.lcmp dL_law_463 ?_
      rw [hg]
      change X _ _ _ _ _ _ (Value.int (lg_cmp (iI 1).toInt64 1) :: _)
      rw [show lg_cmp (iI 1).toInt64 1 = iI 0 from by decide]
      refine C.if_eqI (tgt := 469) dL_law_464 (by decide) (by decide) (fun hc464 => ?_) (fun hc464 => absurd hc464 (by decide))
      refine C.goto (tgt := 1076) dL_law_469 (by decide) ?_
      exact C.wide (by omega) (by omega) (kk _ _ _ _ hRI)
  · refine C.iload dL_law_445 rfl ?_
    refine C.if_neI (tgt := 469) dL_law_447 (by decide) (by omega) (fun hc447 => ?_) (fun hc447 => absurd hc447 (fun h => hc0 h))
    refine C.goto (tgt := 1076) dL_law_469 (by decide) ?_
    exact C.wide (by omega) (by omega) (kk _ _ _ _ hRI)
theorem law_ease (C0 : Lx n sx 1300 601024 7293034 X) (hn : n ≤ 3072) (hi : 0 ≤ i ∧ i + 6 ≤ n) (hce : ce + 1173 ≤ 601024) (hsl : sl + 14047 ≤ 7293034) (Q : Prs (fun d2 mc2 ms2 P => AW yL_ease cL_ease 4 (some .int) [(0, 16, 19, 19), (0, 16, 22, 21)] d2 mc2 ms2 [.ref 0, .int (iI (sx (i + 1).toNat)), .ref 35] L f P) (Pst t yX9_ease cX9_ease 2 (some .boolean) [.int (iI (sx (i + 1).toNat))] B01)) (kk : ∀ L f v5 v6, RI (t + 1) L f → X (ce + 1173) (sl + 14047) L f 1076 (lwV i v5 v6) []) : X ce sl L f 472 (lwV i v5 v6) [] := by
  have C := C0.C
  obtain ⟨d2, mc2, ms2, PoW, hd2, hm2, hs2, M, hP⟩ := Q
  refine C.aload_n dL_law_472 rfl ?_
  refine C.aload_n dL_law_473 rfl ?_
  refine C.iload dL_law_474 rfl ?_
  refine C.ic dL_law_476 ?_
  refine C.iaddI dL_law_477 ?_
  refine C0.scr dL_law_478 (by omega) (by omega) hn ?_
  refine C.aload_n dL_law_479 rfl ?_
  skip
  refine C0.callW (k := 3) M (om_wsL_law0_r7 _ (List.mem_of_getElem? (i := 2) rfl)) (om_wsL_law0_r32 _ (List.mem_of_getElem? (i := 2) rfl)) ⟨by decide +kernel, by decide +kernel, by decide +kernel⟩ (by decide) ml_L_99 sm_L_ease dL_law_480 rfl hd2 (by omega) (by omega) (Nat.le_of_ble_eq_true rfl) rfl (fun r L1 f1 hR => ?_)
  obtain ⟨code, w, g, sf, sa, rfl, hL, h35, hg0, hcd, hov, M1⟩ := hP _ _ _ hR
  refine C.istore dL_law_483 (by decide) rfl ?_
  refine C.aload_n dL_law_485 rfl ?_
  refine C.aload_n dL_law_486 rfl ?_
  refine C.iload dL_law_487 rfl ?_
  refine C.ic dL_law_489 ?_
  refine C.iaddI dL_law_490 ?_
  refine C0.scr dL_law_491 (by omega) (by omega) hn ?_
  skip
  have M2 := M1 L1 f1 hL
  rw [← hov] at M2
  refine C.callV M2 cw_X9_ease ml_L_101 im_X9_ease sl_X9_ease dL_law_492 (hL 20 (by decide)) (show f1 20 = .inr (11, mo sf) from congrFun hov 20) rfl rfl (by decide) (by omega) (by omega) (Nat.le_of_ble_eq_true rfl) rfl (fun r2 L2 f2 hR2 => ?_)
  obtain ⟨sf2, sa2, ⟨⟨w2, rfl, hw, hb⟩, hs0, hRI⟩, rfl, rfl⟩ := hR2
  refine C.istore dL_law_495 (by decide) rfl ?_
  refine C.aload_n dL_law_497 rfl ?_
  skip
  refine C.mcall hL (m_thrown (d := 1200)) cw_X9_thrown ml_L_82 im_X9_thrown sl_X9_thrown dL_law_498 rfl rfl (by decide) (by omega) (by omega) (Nat.le_of_ble_eq_true rfl) rfl (fun r3 sf3 sa3 hR3 => ?_)
  obtain ⟨rfl, hs3, ha3⟩ := hR3
  rw [hs3, ha3, hs0]
  refine C.iload dL_law_501 rfl ?_
  refine C.icmp_eq (tgt := 508) dL_law_503 (by decide) (fun _ => ?_) (fun h => absurd rfl h)
  skip
  by_cases hc0 : code = 0
  · refine C.iload dL_law_508 rfl ?_
    refine C.if_neI (tgt := 532) dL_law_510 (by decide) (by omega) (fun hc510 => absurd hc510 (fun h => h hc0)) (fun hc510 => ?_)
    skip
    have hg := hg0 hc0
    have hw := hw hc0
    subst hw
    rcases hb with rfl | rfl
    · refine C.aload_n dL_law_513 rfl ?_
      refine C.ic dL_law_514 ?_
      refine C.lald0 dL_law_515 (hL 35 (by decide)) h35 ?_
      refine C.iload dL_law_516 rfl ?_
      refine C.if_eqI (tgt := 525) dL_law_518 (by decide) (by decide) (fun hc518 => ?_) (fun hc518 => absurd hc518 (by decide))
      refine C.lconst dL_law_525 rfl ?_
      refine C.lcmp dL_law_526 ?_
      rw [hg]
      change X _ _ _ _ _ _ (Value.int (lg_cmp (iI 0).toInt64 0) :: _)
      rw [show lg_cmp (iI 0).toInt64 0 = iI 0 from by decide]
      refine C.if_eqI (tgt := 532) dL_law_527 (by decide) (by decide) (fun hc527 => ?_) (fun hc527 => absurd hc527 (by decide))
      refine C.goto (tgt := 1076) dL_law_532 (by decide) ?_
      exact C.wide (by omega) (by omega) (kk _ _ _ _ hRI)
    · refine C.aload_n dL_law_513 rfl ?_
      refine C.ic dL_law_514 ?_
      refine C.lald0 dL_law_515 (hL 35 (by decide)) h35 ?_
      refine C.iload dL_law_516 rfl ?_
      refine C.if_eqI (tgt := 525) dL_law_518 (by decide) (by decide) (fun hc518 => absurd hc518 (by decide)) (fun hc518 => ?_)
      refine C.lconst dL_law_521 rfl ?_
      refine C.goto (tgt := 526) dL_law_522 (by decide) ?_
      refine C.lcmp dL_law_526 ?_
      rw [hg]
      change X _ _ _ _ _ _ (Value.int (lg_cmp (iI 1).toInt64 1) :: _)
      rw [show lg_cmp (iI 1).toInt64 1 = iI 0 from by decide]
      refine C.if_eqI (tgt := 532) dL_law_527 (by decide) (by decide) (fun hc527 => ?_) (fun hc527 => absurd hc527 (by decide))
      refine C.goto (tgt := 1076) dL_law_532 (by decide) ?_
      exact C.wide (by omega) (by omega) (kk _ _ _ _ hRI)
  · refine C.iload dL_law_508 rfl ?_
    refine C.if_neI (tgt := 532) dL_law_510 (by decide) (by omega) (fun hc510 => ?_) (fun hc510 => absurd hc510 (fun h => hc0 h))
    refine C.goto (tgt := 1076) dL_law_532 (by decide) ?_
    exact C.wide (by omega) (by omega) (kk _ _ _ _ hRI)
theorem law_plainest (C0 : Lx n sx 1300 601024 7293034 X) (hn : n ≤ 3072) (hi : 0 ≤ i ∧ i + 6 ≤ n) (hce : ce + 1173 ≤ 601024) (hsl : sl + 14047 ≤ 7293034) (Q : Prs (fun d2 mc2 ms2 P => AW yL_plainest cL_plainest 3 (some .int) [(0, 8, 11, 19)] d2 mc2 ms2 [.ref 0, .ref 35] L f P) (Pst t yX9_plainest cX9_plainest 6 (some .int) [] Bny)) (kk : ∀ L f v5 v6, RI (t + 1) L f → X (ce + 1173) (sl + 14047) L f 1076 (lwV i v5 v6) []) : X ce sl L f 535 (lwV i v5 v6) [] := by
  have C := C0.C
  obtain ⟨d2, mc2, ms2, PoW, hd2, hm2, hs2, M, hP⟩ := Q
  refine C.aload_n dL_law_535 rfl ?_
  refine C.aload_n dL_law_536 rfl ?_
  skip
  refine C0.callW (k := 2) M (om_wsL_law0_r7 _ (List.mem_of_getElem? (i := 2) rfl)) (om_wsL_law0_r34 _ (List.mem_of_getElem? (i := 6) rfl)) ⟨by decide +kernel, by decide +kernel, by decide +kernel⟩ (by decide) ml_L_102 sm_L_plainest dL_law_537 rfl hd2 (by omega) (by omega) (Nat.le_of_ble_eq_true rfl) rfl (fun r L1 f1 hR => ?_)
  obtain ⟨code, w, g, sf, sa, rfl, hL, h35, hg0, hcd, hov, M1⟩ := hP _ _ _ hR
  refine C.istore dL_law_540 (by decide) rfl ?_
  refine C.aload_n dL_law_542 rfl ?_
  skip
  have M2 := M1 L1 f1 hL
  rw [← hov] at M2
  refine C.callV M2 cw_X9_plainest ml_L_104 im_X9_plainest sl_X9_plainest dL_law_543 (hL 20 (by decide)) (show f1 20 = .inr (11, mo sf) from congrFun hov 20) rfl rfl (by decide) (by omega) (by omega) (Nat.le_of_ble_eq_true rfl) rfl (fun r2 L2 f2 hR2 => ?_)
  obtain ⟨sf2, sa2, ⟨⟨w2, rfl, hw, hb⟩, hs0, hRI⟩, rfl, rfl⟩ := hR2
  refine C.istore dL_law_546 (by decide) rfl ?_
  refine C.aload_n dL_law_548 rfl ?_
  skip
  refine C.mcall hL (m_thrown (d := 1200)) cw_X9_thrown ml_L_82 im_X9_thrown sl_X9_thrown dL_law_549 rfl rfl (by decide) (by omega) (by omega) (Nat.le_of_ble_eq_true rfl) rfl (fun r3 sf3 sa3 hR3 => ?_)
  obtain ⟨rfl, hs3, ha3⟩ := hR3
  rw [hs3, ha3, hs0]
  refine C.iload dL_law_552 rfl ?_
  refine C.icmp_eq (tgt := 559) dL_law_554 (by decide) (fun _ => ?_) (fun h => absurd rfl h)
  skip
  by_cases hc0 : code = 0
  · refine C.iload dL_law_559 rfl ?_
    refine C.if_neI (tgt := 576) dL_law_561 (by decide) (by omega) (fun hc561 => absurd hc561 (fun h => h hc0)) (fun hc561 => ?_)
    skip
    have hg := hg0 hc0
    have hw := hw hc0
    subst hw
    refine C.aload_n dL_law_564 rfl ?_
    refine C.ic dL_law_565 ?_
    refine C.lald0 dL_law_566 (hL 35 (by decide)) h35 ?_
    refine C.iload dL_law_567 rfl ?_
    refine C.i2l dL_law_569 ?_
    refine C.lcmp dL_law_570 ?_
    rw [hg, lg_same]
    refine C.if_eqI (tgt := 576) dL_law_571 (by decide) (by decide) (fun hc571 => ?_) (fun hc571 => absurd hc571 (by decide))
    refine C.goto (tgt := 1076) dL_law_576 (by decide) ?_
    exact C.wide (by omega) (by omega) (kk _ _ _ _ hRI)
  · refine C.iload dL_law_559 rfl ?_
    refine C.if_neI (tgt := 576) dL_law_561 (by decide) (by omega) (fun hc561 => ?_) (fun hc561 => absurd hc561 (fun h => hc0 h))
    refine C.goto (tgt := 1076) dL_law_576 (by decide) ?_
    exact C.wide (by omega) (by omega) (kk _ _ _ _ hRI)
theorem law_again (C0 : Lx n sx 1300 601024 7293034 X) (hn : n ≤ 3072) (hi : 0 ≤ i ∧ i + 6 ≤ n) (hce : ce + 1173 ≤ 601024) (hsl : sl + 14047 ≤ 7293034) (Q : Prs (fun d2 mc2 ms2 P => AW yL_again cL_again 2 (some .int) [(0, 4, 7, 19)] d2 mc2 ms2 [.ref 0] L f P) (Pag t yX9_again cX9_again 1 [])) (kk : ∀ L f v5 v6, RI (t + 1) L f → X (ce + 1173) (sl + 14047) L f 1076 (lwV i v5 v6) []) : X ce sl L f 579 (lwV i v5 v6) [] := by
  have C := C0.C
  obtain ⟨d2, mc2, ms2, PoW, hd2, hm2, hs2, M, hP⟩ := Q
  refine C.aload_n dL_law_579 rfl ?_
  skip
  refine C0.callW (k := 1) M (om_wsL_law0_r7 _ (List.mem_of_getElem? (i := 2) rfl)) (om_wsL_law0_r38 _ (List.mem_of_getElem? (i := 19) rfl)) ⟨by decide +kernel, by decide +kernel, by decide +kernel⟩ (by decide) ml_L_105 sm_L_again dL_law_580 rfl hd2 (by omega) (by omega) (Nat.le_of_ble_eq_true rfl) rfl (fun r L1 f1 hR => ?_)
  obtain ⟨code, sf, sa, rfl, hL, hcd, hov, M1⟩ := hP _ _ _ hR
  refine C.istore dL_law_583 (by decide) rfl ?_
  refine C.aload_n dL_law_585 rfl ?_
  skip
  have M2 := M1 L1 f1 hL
  rw [← hov] at M2
  refine C.callV M2 cw_X9_again ml_L_108 im_X9_again sl_X9_again dL_law_586 (hL 20 (by decide)) (show f1 20 = .inr (11, mo sf) from congrFun hov 20) rfl rfl (by decide) (by omega) (by omega) (Nat.le_of_ble_eq_true rfl) rfl (fun r2 L2 f2 hR2 => ?_)
  obtain ⟨sf2, sa2, ⟨rfl, hs0, hRI⟩, rfl, rfl⟩ := hR2
  refine C.aload_n dL_law_589 rfl ?_
  skip
  refine C.mcall hL (m_thrown (d := 1200)) cw_X9_thrown ml_L_82 im_X9_thrown sl_X9_thrown dL_law_590 rfl rfl (by decide) (by omega) (by omega) (Nat.le_of_ble_eq_true rfl) rfl (fun r3 sf3 sa3 hR3 => ?_)
  obtain ⟨rfl, hs3, ha3⟩ := hR3
  rw [hs3, ha3, hs0]
  refine C.iload dL_law_593 rfl ?_
  refine C.icmp_eq (tgt := 600) dL_law_595 (by decide) (fun _ => ?_) (fun h => absurd rfl h)
  skip
  refine C.goto (tgt := 1076) dL_law_600 (by decide) ?_
  exact C.wide (by omega) (by omega) (kk _ _ _ _ hRI)
theorem law_cost (C0 : Lx n sx 1300 601024 7293034 X) (hn : n ≤ 3072) (hi : 0 ≤ i ∧ i + 6 ≤ n) (hce : ce + 1173 ≤ 601024) (hsl : sl + 14047 ≤ 7293034) (hsx : ∀ j, i3 (sx j)) (Q : ∀ bo : Bool, Prs (fun d2 mc2 ms2 P => AW yL_cost cL_cost 4 (some .int) [(0, 9, 12, 19)] d2 mc2 ms2 [.ref 0, .int (iI (b2i bo)), .ref 35] L f P) (Pst t yX9_cost cX9_cost 2 (some .int) [.int (iI (b2i bo))] Bny)) (kk : ∀ L f v5 v6, RI (t + 1) L f → X (ce + 1173) (sl + 14047) L f 1076 (lwV i v5 v6) []) : X ce sl L f 603 (lwV i v5 v6) [] := by
  have C := C0.C
  by_cases hb0 : sx (i + 1).toNat = 0
  · skip
    obtain ⟨d2, mc2, ms2, PoW, hd2, hm2, hs2, M, hP⟩ := Q false
    refine C.aload_n dL_law_603 rfl ?_
    refine C.aload_n dL_law_604 rfl ?_
    refine C.iload dL_law_605 rfl ?_
    refine C.ic dL_law_607 ?_
    refine C.iaddI dL_law_608 ?_
    refine C0.scr dL_law_609 (by omega) (by omega) hn ?_
    refine C.if_eqI (tgt := 617) dL_law_610 (by decide) (hsx _) (fun hc610 => ?_) (fun hc610 => absurd hc610 (fun h => h hb0))
    refine C.ic dL_law_617 ?_
    refine C.aload_n dL_law_618 rfl ?_
    skip
    refine C0.callW (k := 3) M (om_wsL_law0_r7 _ (List.mem_of_getElem? (i := 2) rfl)) (om_wsL_law0_r39 _ (List.mem_of_getElem? (i := 6) rfl)) ⟨by decide +kernel, by decide +kernel, by decide +kernel⟩ (by decide) ml_L_109 sm_L_cost dL_law_619 rfl hd2 (by omega) (by omega) (Nat.le_of_ble_eq_true rfl) rfl (fun r L1 f1 hR => ?_)
    obtain ⟨code, w, g, sf, sa, rfl, hL, h35, hg0, hcd, hov, M1⟩ := hP _ _ _ hR
    refine C.istore dL_law_622 (by decide) rfl ?_
    refine C.aload_n dL_law_624 rfl ?_
    refine C.aload_n dL_law_625 rfl ?_
    refine C.iload dL_law_626 rfl ?_
    refine C.ic dL_law_628 ?_
    refine C.iaddI dL_law_629 ?_
    refine C0.scr dL_law_630 (by omega) (by omega) hn ?_
    refine C.if_eqI (tgt := 638) dL_law_631 (by decide) (hsx _) (fun hc631 => ?_) (fun hc631 => absurd hc631 (fun h => h hb0))
    refine C.ic dL_law_638 ?_
    skip
    have M2 := M1 L1 f1 hL
    rw [← hov] at M2
    refine C.callV M2 cw_X9_cost ml_L_112 im_X9_cost sl_X9_cost dL_law_639 (hL 20 (by decide)) (show f1 20 = .inr (11, mo sf) from congrFun hov 20) rfl rfl (by decide) (by omega) (by omega) (Nat.le_of_ble_eq_true rfl) rfl (fun r2 L2 f2 hR2 => ?_)
    obtain ⟨sf2, sa2, ⟨⟨w2, rfl, hw, hb⟩, hs0, hRI⟩, rfl, rfl⟩ := hR2
    refine C.istore dL_law_642 (by decide) rfl ?_
    refine C.aload_n dL_law_644 rfl ?_
    skip
    refine C.mcall hL (m_thrown (d := 1200)) cw_X9_thrown ml_L_82 im_X9_thrown sl_X9_thrown dL_law_645 rfl rfl (by decide) (by omega) (by omega) (Nat.le_of_ble_eq_true rfl) rfl (fun r3 sf3 sa3 hR3 => ?_)
    obtain ⟨rfl, hs3, ha3⟩ := hR3
    rw [hs3, ha3, hs0]
    refine C.iload dL_law_648 rfl ?_
    refine C.icmp_eq (tgt := 655) dL_law_650 (by decide) (fun _ => ?_) (fun h => absurd rfl h)
    skip
    by_cases hc0 : code = 0
    · refine C.iload dL_law_655 rfl ?_
      refine C.if_neI (tgt := 672) dL_law_657 (by decide) (by omega) (fun hc657 => absurd hc657 (fun h => h hc0)) (fun hc657 => ?_)
      skip
      have hg := hg0 hc0
      have hw := hw hc0
      subst hw
      refine C.aload_n dL_law_660 rfl ?_
      refine C.ic dL_law_661 ?_
      refine C.lald0 dL_law_662 (hL 35 (by decide)) h35 ?_
      refine C.iload dL_law_663 rfl ?_
      refine C.i2l dL_law_665 ?_
      refine C.lcmp dL_law_666 ?_
      rw [hg, lg_same]
      refine C.if_eqI (tgt := 672) dL_law_667 (by decide) (by decide) (fun hc667 => ?_) (fun hc667 => absurd hc667 (by decide))
      refine C.goto (tgt := 1076) dL_law_672 (by decide) ?_
      exact C.wide (by omega) (by omega) (kk _ _ _ _ hRI)
    · refine C.iload dL_law_655 rfl ?_
      refine C.if_neI (tgt := 672) dL_law_657 (by decide) (by omega) (fun hc657 => ?_) (fun hc657 => absurd hc657 (fun h => hc0 h))
      refine C.goto (tgt := 1076) dL_law_672 (by decide) ?_
      exact C.wide (by omega) (by omega) (kk _ _ _ _ hRI)
  · skip
    obtain ⟨d2, mc2, ms2, PoW, hd2, hm2, hs2, M, hP⟩ := Q true
    refine C.aload_n dL_law_603 rfl ?_
    refine C.aload_n dL_law_604 rfl ?_
    refine C.iload dL_law_605 rfl ?_
    refine C.ic dL_law_607 ?_
    refine C.iaddI dL_law_608 ?_
    refine C0.scr dL_law_609 (by omega) (by omega) hn ?_
    refine C.if_eqI (tgt := 617) dL_law_610 (by decide) (hsx _) (fun hc610 => absurd hc610 hb0) (fun hc610 => ?_)
    refine C.ic dL_law_613 ?_
    refine C.goto (tgt := 618) dL_law_614 (by decide) ?_
    refine C.aload_n dL_law_618 rfl ?_
    skip
    refine C0.callW (k := 3) M (om_wsL_law0_r7 _ (List.mem_of_getElem? (i := 2) rfl)) (om_wsL_law0_r39 _ (List.mem_of_getElem? (i := 6) rfl)) ⟨by decide +kernel, by decide +kernel, by decide +kernel⟩ (by decide) ml_L_109 sm_L_cost dL_law_619 rfl hd2 (by omega) (by omega) (Nat.le_of_ble_eq_true rfl) rfl (fun r L1 f1 hR => ?_)
    obtain ⟨code, w, g, sf, sa, rfl, hL, h35, hg0, hcd, hov, M1⟩ := hP _ _ _ hR
    refine C.istore dL_law_622 (by decide) rfl ?_
    refine C.aload_n dL_law_624 rfl ?_
    refine C.aload_n dL_law_625 rfl ?_
    refine C.iload dL_law_626 rfl ?_
    refine C.ic dL_law_628 ?_
    refine C.iaddI dL_law_629 ?_
    refine C0.scr dL_law_630 (by omega) (by omega) hn ?_
    refine C.if_eqI (tgt := 638) dL_law_631 (by decide) (hsx _) (fun hc631 => absurd hc631 hb0) (fun hc631 => ?_)
    refine C.ic dL_law_634 ?_
    refine C.goto (tgt := 639) dL_law_635 (by decide) ?_
    skip
    have M2 := M1 L1 f1 hL
    rw [← hov] at M2
    refine C.callV M2 cw_X9_cost ml_L_112 im_X9_cost sl_X9_cost dL_law_639 (hL 20 (by decide)) (show f1 20 = .inr (11, mo sf) from congrFun hov 20) rfl rfl (by decide) (by omega) (by omega) (Nat.le_of_ble_eq_true rfl) rfl (fun r2 L2 f2 hR2 => ?_)
    obtain ⟨sf2, sa2, ⟨⟨w2, rfl, hw, hb⟩, hs0, hRI⟩, rfl, rfl⟩ := hR2
    refine C.istore dL_law_642 (by decide) rfl ?_
    refine C.aload_n dL_law_644 rfl ?_
    skip
    refine C.mcall hL (m_thrown (d := 1200)) cw_X9_thrown ml_L_82 im_X9_thrown sl_X9_thrown dL_law_645 rfl rfl (by decide) (by omega) (by omega) (Nat.le_of_ble_eq_true rfl) rfl (fun r3 sf3 sa3 hR3 => ?_)
    obtain ⟨rfl, hs3, ha3⟩ := hR3
    rw [hs3, ha3, hs0]
    refine C.iload dL_law_648 rfl ?_
    refine C.icmp_eq (tgt := 655) dL_law_650 (by decide) (fun _ => ?_) (fun h => absurd rfl h)
    skip
    by_cases hc0 : code = 0
    · refine C.iload dL_law_655 rfl ?_
      refine C.if_neI (tgt := 672) dL_law_657 (by decide) (by omega) (fun hc657 => absurd hc657 (fun h => h hc0)) (fun hc657 => ?_)
      skip
      have hg := hg0 hc0
      have hw := hw hc0
      subst hw
      refine C.aload_n dL_law_660 rfl ?_
      refine C.ic dL_law_661 ?_
      refine C.lald0 dL_law_662 (hL 35 (by decide)) h35 ?_
      refine C.iload dL_law_663 rfl ?_
      refine C.i2l dL_law_665 ?_
      refine C.lcmp dL_law_666 ?_
      rw [hg, lg_same]
      refine C.if_eqI (tgt := 672) dL_law_667 (by decide) (by decide) (fun hc667 => ?_) (fun hc667 => absurd hc667 (by decide))
      refine C.goto (tgt := 1076) dL_law_672 (by decide) ?_
      exact C.wide (by omega) (by omega) (kk _ _ _ _ hRI)
    · refine C.iload dL_law_655 rfl ?_
      refine C.if_neI (tgt := 672) dL_law_657 (by decide) (by omega) (fun hc657 => ?_) (fun hc657 => absurd hc657 (fun h => hc0 h))
      refine C.goto (tgt := 1076) dL_law_672 (by decide) ?_
      exact C.wide (by omega) (by omega) (kk _ _ _ _ hRI)
theorem law_look (C0 : Lx n sx 1300 601024 7293034 X) (hn : n ≤ 3072) (hi : 0 ≤ i ∧ i + 6 ≤ n) (hce : ce + 1173 ≤ 601024) (hsl : sl + 14047 ≤ 7293034) (Q : Prs (fun d2 mc2 ms2 P => AW yL_look cL_look 5 (some .int) [(0, 10, 13, 19), (0, 10, 17, 21), (0, 10, 21, 46)] d2 mc2 ms2 [.ref 0, .int (iI (sx (i + 1).toNat)), .int (iI (sx (i + 2).toNat)), .ref 35] L f P) (Pst t yX9_look cX9_look 4 (some .int) [.int (iI (sx (i + 1).toNat)), .int (iI (sx (i + 2).toNat))] Bny)) (kk : ∀ L f v5 v6, RI (t + 1) L f → X (ce + 1173) (sl + 14047) L f 1076 (lwV i v5 v6) []) : X ce sl L f 675 (lwV i v5 v6) [] := by
  have C := C0.C
  obtain ⟨d2, mc2, ms2, PoW, hd2, hm2, hs2, M, hP⟩ := Q
  refine C.aload_n dL_law_675 rfl ?_
  refine C.aload_n dL_law_676 rfl ?_
  refine C.iload dL_law_677 rfl ?_
  refine C.ic dL_law_679 ?_
  refine C.iaddI dL_law_680 ?_
  refine C0.scr dL_law_681 (by omega) (by omega) hn ?_
  refine C.aload_n dL_law_682 rfl ?_
  refine C.iload dL_law_683 rfl ?_
  refine C.ic dL_law_685 ?_
  refine C.iaddI dL_law_686 ?_
  refine C0.scr dL_law_687 (by omega) (by omega) hn ?_
  refine C.aload_n dL_law_688 rfl ?_
  skip
  refine C0.callW (k := 4) M (om_wsL_law0_r7 _ (List.mem_of_getElem? (i := 2) rfl)) (om_wsL_law0_r39 _ (List.mem_of_getElem? (i := 21) rfl)) ⟨by decide +kernel, by decide +kernel, by decide +kernel⟩ (by decide) ml_L_113 sm_L_look dL_law_689 rfl hd2 (by omega) (by omega) (Nat.le_of_ble_eq_true rfl) rfl (fun r L1 f1 hR => ?_)
  obtain ⟨code, w, g, sf, sa, rfl, hL, h35, hg0, hcd, hov, M1⟩ := hP _ _ _ hR
  refine C.istore dL_law_692 (by decide) rfl ?_
  refine C.aload_n dL_law_694 rfl ?_
  refine C.aload_n dL_law_695 rfl ?_
  refine C.iload dL_law_696 rfl ?_
  refine C.ic dL_law_698 ?_
  refine C.iaddI dL_law_699 ?_
  refine C0.scr dL_law_700 (by omega) (by omega) hn ?_
  refine C.aload_n dL_law_701 rfl ?_
  refine C.iload dL_law_702 rfl ?_
  refine C.ic dL_law_704 ?_
  refine C.iaddI dL_law_705 ?_
  refine C0.scr dL_law_706 (by omega) (by omega) hn ?_
  skip
  have M2 := M1 L1 f1 hL
  rw [← hov] at M2
  refine C.callV M2 cw_X9_look ml_L_116 im_X9_look sl_X9_look dL_law_707 (hL 20 (by decide)) (show f1 20 = .inr (11, mo sf) from congrFun hov 20) rfl rfl (by decide) (by omega) (by omega) (Nat.le_of_ble_eq_true rfl) rfl (fun r2 L2 f2 hR2 => ?_)
  obtain ⟨sf2, sa2, ⟨⟨w2, rfl, hw, hb⟩, hs0, hRI⟩, rfl, rfl⟩ := hR2
  refine C.istore dL_law_710 (by decide) rfl ?_
  refine C.aload_n dL_law_712 rfl ?_
  skip
  refine C.mcall hL (m_thrown (d := 1200)) cw_X9_thrown ml_L_82 im_X9_thrown sl_X9_thrown dL_law_713 rfl rfl (by decide) (by omega) (by omega) (Nat.le_of_ble_eq_true rfl) rfl (fun r3 sf3 sa3 hR3 => ?_)
  obtain ⟨rfl, hs3, ha3⟩ := hR3
  rw [hs3, ha3, hs0]
  refine C.iload dL_law_716 rfl ?_
  refine C.icmp_eq (tgt := 723) dL_law_718 (by decide) (fun _ => ?_) (fun h => absurd rfl h)
  skip
  by_cases hc0 : code = 0
  · refine C.iload dL_law_723 rfl ?_
    refine C.if_neI (tgt := 740) dL_law_725 (by decide) (by omega) (fun hc725 => absurd hc725 (fun h => h hc0)) (fun hc725 => ?_)
    skip
    have hg := hg0 hc0
    have hw := hw hc0
    subst hw
    refine C.aload_n dL_law_728 rfl ?_
    refine C.ic dL_law_729 ?_
    refine C.lald0 dL_law_730 (hL 35 (by decide)) h35 ?_
    refine C.iload dL_law_731 rfl ?_
    refine C.i2l dL_law_733 ?_
    refine C.lcmp dL_law_734 ?_
    rw [hg, lg_same]
    refine C.if_eqI (tgt := 740) dL_law_735 (by decide) (by decide) (fun hc735 => ?_) (fun hc735 => absurd hc735 (by decide))
    refine C.goto (tgt := 1076) dL_law_740 (by decide) ?_
    exact C.wide (by omega) (by omega) (kk _ _ _ _ hRI)
  · refine C.iload dL_law_723 rfl ?_
    refine C.if_neI (tgt := 740) dL_law_725 (by decide) (by omega) (fun hc725 => ?_) (fun hc725 => absurd hc725 (fun h => hc0 h))
    refine C.goto (tgt := 1076) dL_law_740 (by decide) ?_
    exact C.wide (by omega) (by omega) (kk _ _ _ _ hRI)
theorem law_same (C0 : Lx n sx 1300 601024 7293034 X) (hn : n ≤ 3072) (hi : 0 ≤ i ∧ i + 6 ≤ n) (hce : ce + 1173 ≤ 601024) (hsl : sl + 14047 ≤ 7293034) (Q : Prs (fun d2 mc2 ms2 P => AW yL_same cL_same 3 (some .int) [(0, 15, 18, 19)] d2 mc2 ms2 [.ref 0, .ref 35] L f P) (Pst t yX9_same cX9_same 1 (some .boolean) [] B01)) (kk : ∀ L f v5 v6, RI (t + 1) L f → X (ce + 1173) (sl + 14047) L f 1076 (lwV i v5 v6) []) : X ce sl L f 743 (lwV i v5 v6) [] := by
  have C := C0.C
  obtain ⟨d2, mc2, ms2, PoW, hd2, hm2, hs2, M, hP⟩ := Q
  refine C.aload_n dL_law_743 rfl ?_
  refine C.aload_n dL_law_744 rfl ?_
  skip
  refine C0.callW (k := 2) M (om_wsL_law0_r7 _ (List.mem_of_getElem? (i := 2) rfl)) (om_wsL_law0_r40 _ (List.mem_of_getElem? (i := 17) rfl)) ⟨by decide +kernel, by decide +kernel, by decide +kernel⟩ (by decide) ml_L_117 sm_L_same dL_law_745 rfl hd2 (by omega) (by omega) (Nat.le_of_ble_eq_true rfl) rfl (fun r L1 f1 hR => ?_)
  obtain ⟨code, w, g, sf, sa, rfl, hL, h35, hg0, hcd, hov, M1⟩ := hP _ _ _ hR
  refine C.istore dL_law_748 (by decide) rfl ?_
  refine C.aload_n dL_law_750 rfl ?_
  skip
  have M2 := M1 L1 f1 hL
  rw [← hov] at M2
  refine C.callV M2 cw_X9_same ml_L_119 im_X9_same sl_X9_same dL_law_751 (hL 20 (by decide)) (show f1 20 = .inr (11, mo sf) from congrFun hov 20) rfl rfl (by decide) (by omega) (by omega) (Nat.le_of_ble_eq_true rfl) rfl (fun r2 L2 f2 hR2 => ?_)
  obtain ⟨sf2, sa2, ⟨⟨w2, rfl, hw, hb⟩, hs0, hRI⟩, rfl, rfl⟩ := hR2
  refine C.istore dL_law_754 (by decide) rfl ?_
  refine C.aload_n dL_law_756 rfl ?_
  skip
  refine C.mcall hL (m_thrown (d := 1200)) cw_X9_thrown ml_L_82 im_X9_thrown sl_X9_thrown dL_law_757 rfl rfl (by decide) (by omega) (by omega) (Nat.le_of_ble_eq_true rfl) rfl (fun r3 sf3 sa3 hR3 => ?_)
  obtain ⟨rfl, hs3, ha3⟩ := hR3
  rw [hs3, ha3, hs0]
  refine C.iload dL_law_760 rfl ?_
  refine C.icmp_eq (tgt := 767) dL_law_762 (by decide) (fun _ => ?_) (fun h => absurd rfl h)
  skip
  by_cases hc0 : code = 0
  · refine C.iload dL_law_767 rfl ?_
    refine C.if_neI (tgt := 791) dL_law_769 (by decide) (by omega) (fun hc769 => absurd hc769 (fun h => h hc0)) (fun hc769 => ?_)
    skip
    have hg := hg0 hc0
    have hw := hw hc0
    subst hw
    rcases hb with rfl | rfl
    · refine C.aload_n dL_law_772 rfl ?_
      refine C.ic dL_law_773 ?_
      refine C.lald0 dL_law_774 (hL 35 (by decide)) h35 ?_
      refine C.iload dL_law_775 rfl ?_
      refine C.if_eqI (tgt := 784) dL_law_777 (by decide) (by decide) (fun hc777 => ?_) (fun hc777 => absurd hc777 (by decide))
      refine C.lconst dL_law_784 rfl ?_
      refine C.lcmp dL_law_785 ?_
      rw [hg]
      change X _ _ _ _ _ _ (Value.int (lg_cmp (iI 0).toInt64 0) :: _)
      rw [show lg_cmp (iI 0).toInt64 0 = iI 0 from by decide]
      refine C.if_eqI (tgt := 791) dL_law_786 (by decide) (by decide) (fun hc786 => ?_) (fun hc786 => absurd hc786 (by decide))
      refine C.goto (tgt := 1076) dL_law_791 (by decide) ?_
      exact C.wide (by omega) (by omega) (kk _ _ _ _ hRI)
    · refine C.aload_n dL_law_772 rfl ?_
      refine C.ic dL_law_773 ?_
      refine C.lald0 dL_law_774 (hL 35 (by decide)) h35 ?_
      refine C.iload dL_law_775 rfl ?_
      refine C.if_eqI (tgt := 784) dL_law_777 (by decide) (by decide) (fun hc777 => absurd hc777 (by decide)) (fun hc777 => ?_)
      refine C.lconst dL_law_780 rfl ?_
      refine C.goto (tgt := 785) dL_law_781 (by decide) ?_
      refine C.lcmp dL_law_785 ?_
      rw [hg]
      change X _ _ _ _ _ _ (Value.int (lg_cmp (iI 1).toInt64 1) :: _)
      rw [show lg_cmp (iI 1).toInt64 1 = iI 0 from by decide]
      refine C.if_eqI (tgt := 791) dL_law_786 (by decide) (by decide) (fun hc786 => ?_) (fun hc786 => absurd hc786 (by decide))
      refine C.goto (tgt := 1076) dL_law_791 (by decide) ?_
      exact C.wide (by omega) (by omega) (kk _ _ _ _ hRI)
  · refine C.iload dL_law_767 rfl ?_
    refine C.if_neI (tgt := 791) dL_law_769 (by decide) (by omega) (fun hc769 => ?_) (fun hc769 => absurd hc769 (fun h => hc0 h))
    refine C.goto (tgt := 1076) dL_law_791 (by decide) ?_
    exact C.wide (by omega) (by omega) (kk _ _ _ _ hRI)
theorem law_write (C0 : Lx n sx 1300 601024 7293034 X) (hn : n ≤ 3072) (hi : 0 ≤ i ∧ i + 6 ≤ n) (hce : ce + 1173 ≤ 601024) (hsl : sl + 14047 ≤ 7293034) (Q : Prs (fun d2 mc2 ms2 P => AW yL_write cL_write 3 (some .int) [(0, 8, 11, 19)] d2 mc2 ms2 [.ref 0, .ref 35] L f P) (Pst t yX9_write cX9_write 2 (some .int) [] Bny)) (kk : ∀ L f v5 v6, RI (t + 1) L f → X (ce + 1173) (sl + 14047) L f 1076 (lwV i v5 v6) []) : X ce sl L f 794 (lwV i v5 v6) [] := by
  have C := C0.C
  obtain ⟨d2, mc2, ms2, PoW, hd2, hm2, hs2, M, hP⟩ := Q
  refine C.aload_n dL_law_794 rfl ?_
  refine C.aload_n dL_law_795 rfl ?_
  skip
  refine C0.callW (k := 2) M (om_wsL_law0_r7 _ (List.mem_of_getElem? (i := 2) rfl)) (om_wsL_law0_r42 _ (List.mem_of_getElem? (i := 17) rfl)) ⟨by decide +kernel, by decide +kernel, by decide +kernel⟩ (by decide) ml_L_120 sm_L_write dL_law_796 rfl hd2 (by omega) (by omega) (Nat.le_of_ble_eq_true rfl) rfl (fun r L1 f1 hR => ?_)
  obtain ⟨code, w, g, sf, sa, rfl, hL, h35, hg0, hcd, hov, M1⟩ := hP _ _ _ hR
  refine C.istore dL_law_799 (by decide) rfl ?_
  refine C.aload_n dL_law_801 rfl ?_
  skip
  have M2 := M1 L1 f1 hL
  rw [← hov] at M2
  refine C.callV M2 cw_X9_write ml_L_122 im_X9_write sl_X9_write dL_law_802 (hL 20 (by decide)) (show f1 20 = .inr (11, mo sf) from congrFun hov 20) rfl rfl (by decide) (by omega) (by omega) (Nat.le_of_ble_eq_true rfl) rfl (fun r2 L2 f2 hR2 => ?_)
  obtain ⟨sf2, sa2, ⟨⟨w2, rfl, hw, hb⟩, hs0, hRI⟩, rfl, rfl⟩ := hR2
  refine C.istore dL_law_805 (by decide) rfl ?_
  refine C.aload_n dL_law_807 rfl ?_
  skip
  refine C.mcall hL (m_thrown (d := 1200)) cw_X9_thrown ml_L_82 im_X9_thrown sl_X9_thrown dL_law_808 rfl rfl (by decide) (by omega) (by omega) (Nat.le_of_ble_eq_true rfl) rfl (fun r3 sf3 sa3 hR3 => ?_)
  obtain ⟨rfl, hs3, ha3⟩ := hR3
  rw [hs3, ha3, hs0]
  refine C.iload dL_law_811 rfl ?_
  refine C.icmp_eq (tgt := 818) dL_law_813 (by decide) (fun _ => ?_) (fun h => absurd rfl h)
  skip
  by_cases hc0 : code = 0
  · refine C.iload dL_law_818 rfl ?_
    refine C.if_neI (tgt := 835) dL_law_820 (by decide) (by omega) (fun hc820 => absurd hc820 (fun h => h hc0)) (fun hc820 => ?_)
    skip
    have hg := hg0 hc0
    have hw := hw hc0
    subst hw
    refine C.aload_n dL_law_823 rfl ?_
    refine C.ic dL_law_824 ?_
    refine C.lald0 dL_law_825 (hL 35 (by decide)) h35 ?_
    refine C.iload dL_law_826 rfl ?_
    refine C.i2l dL_law_828 ?_
    refine C.lcmp dL_law_829 ?_
    rw [hg, lg_same]
    refine C.if_eqI (tgt := 835) dL_law_830 (by decide) (by decide) (fun hc830 => ?_) (fun hc830 => absurd hc830 (by decide))
    refine C.goto (tgt := 1076) dL_law_835 (by decide) ?_
    exact C.wide (by omega) (by omega) (kk _ _ _ _ hRI)
  · refine C.iload dL_law_818 rfl ?_
    refine C.if_neI (tgt := 835) dL_law_820 (by decide) (by omega) (fun hc820 => ?_) (fun hc820 => absurd hc820 (fun h => hc0 h))
    refine C.goto (tgt := 1076) dL_law_835 (by decide) ?_
    exact C.wide (by omega) (by omega) (kk _ _ _ _ hRI)
theorem law_taped (C0 : Lx n sx 1300 601024 7293034 X) (hn : n ≤ 3072) (hi : 0 ≤ i ∧ i + 6 ≤ n) (hce : ce + 1173 ≤ 601024) (hsl : sl + 14047 ≤ 7293034) (Q : Prd (fun P => AM yX8_taped cX8_taped 2 (some .int) 1000 0 0 [.ref 0, .int (iI (sx (i + 1).toNat))] L f P) (Pdr t yX9_taped cX9_taped 2 (some .int) [.int (iI (sx (i + 1).toNat))])) (h0L : 0 ∈ L) {fs : List Value} (h0f : f 0 = .inr (10, fs)) (kk : ∀ L f v5 v6, RI (t + 1) L f → X (ce + 1173) (sl + 14047) L f 1076 (lwV i v5 v6) []) : X ce sl L f 838 (lwV i v5 v6) [] := by
  have C := C0.C
  obtain ⟨PoW, M, hP⟩ := Q
  refine C.aload_n dL_law_838 rfl ?_
  refine C.aload_n dL_law_839 rfl ?_
  refine C.iload dL_law_840 rfl ?_
  refine C.ic dL_law_842 ?_
  refine C.iaddI dL_law_843 ?_
  refine C0.scr dL_law_844 (by omega) (by omega) hn ?_
  skip
  refine C.callV M cw_X8_taped ml_L_123 im_X8_taped sl_X8_taped dL_law_845 h0L h0f rfl rfl (by decide) (by omega) (by omega) (Nat.le_of_ble_eq_true rfl) rfl (fun r L1 f1 hR => ?_)
  obtain ⟨w, sf, sa, rfl, hL, hov, M1⟩ := hP _ _ _ hR
  refine C.aload_n dL_law_848 rfl ?_
  refine C.aload_n dL_law_849 rfl ?_
  refine C.iload dL_law_850 rfl ?_
  refine C.ic dL_law_852 ?_
  refine C.iaddI dL_law_853 ?_
  refine C0.scr dL_law_854 (by omega) (by omega) hn ?_
  skip
  have M2 := M1 L1 f1 hL
  rw [← hov] at M2
  refine C.callV M2 cw_X9_taped ml_L_127 im_X9_taped sl_X9_taped dL_law_855 (hL 20 (by decide)) (show f1 20 = .inr (11, mo sf) from congrFun hov 20) rfl rfl (by decide) (by omega) (by omega) (Nat.le_of_ble_eq_true rfl) rfl (fun r2 L2 f2 hR2 => ?_)
  obtain ⟨sf2, sa2, ⟨rfl, hRI⟩, rfl, rfl⟩ := hR2
  refine C.icmp_eq (tgt := 1076) dL_law_858 (by decide) (fun _ => ?_) (fun h => absurd rfl h)
  exact C.wide (by omega) (by omega) (kk _ _ _ _ hRI)
theorem law_ask (C0 : Lx n sx 1300 601024 7293034 X) (hn : n ≤ 3072) (hi : 0 ≤ i ∧ i + 6 ≤ n) (hce : ce + 1173 ≤ 601024) (hsl : sl + 14047 ≤ 7293034) (hsx : ∀ j, i3 (sx j)) (Q : ∀ bo : Bool, Prs (fun d2 mc2 ms2 P => AW yL_ask cL_ask 7 (some .int) [(0, 14, 17, 19)] d2 mc2 ms2 [.ref 0, .int (iI (b2i bo)), .int (iI (sx (i + 2).toNat)), .int (iI (sx (i + 3).toNat)), .int (iI (sx (i + 4).toNat)), .ref 35] L f P) (Pst t yX9_ask cX9_ask 8 (some .int) [.int (iI (b2i bo)), .int (iI (sx (i + 2).toNat)), .int (iI (sx (i + 3).toNat)), .int (iI (sx (i + 4).toNat))] Bny)) (kk : ∀ L f v5 v6, RI (t + 1) L f → X (ce + 1173) (sl + 14047) L f 1076 (lwV i v5 v6) []) : X ce sl L f 863 (lwV i v5 v6) [] := by
  have C := C0.C
  by_cases hb0 : sx (i + 1).toNat = 0
  · skip
    obtain ⟨d2, mc2, ms2, PoW, hd2, hm2, hs2, M, hP⟩ := Q false
    refine C.aload_n dL_law_863 rfl ?_
    refine C.aload_n dL_law_864 rfl ?_
    refine C.iload dL_law_865 rfl ?_
    refine C.ic dL_law_867 ?_
    refine C.iaddI dL_law_868 ?_
    refine C0.scr dL_law_869 (by omega) (by omega) hn ?_
    refine C.if_eqI (tgt := 877) dL_law_870 (by decide) (hsx _) (fun hc870 => ?_) (fun hc870 => absurd hc870 (fun h => h hb0))
    refine C.ic dL_law_877 ?_
    refine C.aload_n dL_law_878 rfl ?_
    refine C.iload dL_law_879 rfl ?_
    refine C.ic dL_law_881 ?_
    refine C.iaddI dL_law_882 ?_
    refine C0.scr dL_law_883 (by omega) (by omega) hn ?_
    refine C.aload_n dL_law_884 rfl ?_
    refine C.iload dL_law_885 rfl ?_
    refine C.ic dL_law_887 ?_
    refine C.iaddI dL_law_888 ?_
    refine C0.scr dL_law_889 (by omega) (by omega) hn ?_
    refine C.aload_n dL_law_890 rfl ?_
    refine C.iload dL_law_891 rfl ?_
    refine C.ic dL_law_893 ?_
    refine C.iaddI dL_law_894 ?_
    refine C0.scr dL_law_895 (by omega) (by omega) hn ?_
    refine C.aload_n dL_law_896 rfl ?_
    skip
    refine C0.callW (k := 6) M (om_wsL_law0_r7 _ (List.mem_of_getElem? (i := 2) rfl)) (om_wsL_law0_r46 _ (List.mem_of_getElem? (i := 7) rfl)) ⟨by decide +kernel, by decide +kernel, by decide +kernel⟩ (by decide) ml_L_128 sm_L_ask dL_law_897 rfl hd2 (by omega) (by omega) (Nat.le_of_ble_eq_true rfl) rfl (fun r L1 f1 hR => ?_)
    obtain ⟨code, w, g, sf, sa, rfl, hL, h35, hg0, hcd, hov, M1⟩ := hP _ _ _ hR
    refine C.istore dL_law_900 (by decide) rfl ?_
    refine C.aload_n dL_law_902 rfl ?_
    refine C.aload_n dL_law_903 rfl ?_
    refine C.iload dL_law_904 rfl ?_
    refine C.ic dL_law_906 ?_
    refine C.iaddI dL_law_907 ?_
    refine C0.scr dL_law_908 (by omega) (by omega) hn ?_
    refine C.if_eqI (tgt := 916) dL_law_909 (by decide) (hsx _) (fun hc909 => ?_) (fun hc909 => absurd hc909 (fun h => h hb0))
    refine C.ic dL_law_916 ?_
    refine C.aload_n dL_law_917 rfl ?_
    refine C.iload dL_law_918 rfl ?_
    refine C.ic dL_law_920 ?_
    refine C.iaddI dL_law_921 ?_
    refine C0.scr dL_law_922 (by omega) (by omega) hn ?_
    refine C.aload_n dL_law_923 rfl ?_
    refine C.iload dL_law_924 rfl ?_
    refine C.ic dL_law_926 ?_
    refine C.iaddI dL_law_927 ?_
    refine C0.scr dL_law_928 (by omega) (by omega) hn ?_
    refine C.aload_n dL_law_929 rfl ?_
    refine C.iload dL_law_930 rfl ?_
    refine C.ic dL_law_932 ?_
    refine C.iaddI dL_law_933 ?_
    refine C0.scr dL_law_934 (by omega) (by omega) hn ?_
    skip
    have M2 := M1 L1 f1 hL
    rw [← hov] at M2
    refine C.callV M2 cw_X9_ask ml_L_131 im_X9_ask sl_X9_ask dL_law_935 (hL 20 (by decide)) (show f1 20 = .inr (11, mo sf) from congrFun hov 20) rfl rfl (by decide) (by omega) (by omega) (Nat.le_of_ble_eq_true rfl) rfl (fun r2 L2 f2 hR2 => ?_)
    obtain ⟨sf2, sa2, ⟨⟨w2, rfl, hw, hb⟩, hs0, hRI⟩, rfl, rfl⟩ := hR2
    refine C.istore dL_law_938 (by decide) rfl ?_
    refine C.aload_n dL_law_940 rfl ?_
    skip
    refine C.mcall hL (m_thrown (d := 1200)) cw_X9_thrown ml_L_82 im_X9_thrown sl_X9_thrown dL_law_941 rfl rfl (by decide) (by omega) (by omega) (Nat.le_of_ble_eq_true rfl) rfl (fun r3 sf3 sa3 hR3 => ?_)
    obtain ⟨rfl, hs3, ha3⟩ := hR3
    rw [hs3, ha3, hs0]
    refine C.iload dL_law_944 rfl ?_
    refine C.icmp_eq (tgt := 951) dL_law_946 (by decide) (fun _ => ?_) (fun h => absurd rfl h)
    skip
    by_cases hc0 : code = 0
    · refine C.iload dL_law_951 rfl ?_
      refine C.if_neI (tgt := 968) dL_law_953 (by decide) (by omega) (fun hc953 => absurd hc953 (fun h => h hc0)) (fun hc953 => ?_)
      skip
      have hg := hg0 hc0
      have hw := hw hc0
      subst hw
      refine C.aload_n dL_law_956 rfl ?_
      refine C.ic dL_law_957 ?_
      refine C.lald0 dL_law_958 (hL 35 (by decide)) h35 ?_
      refine C.iload dL_law_959 rfl ?_
      refine C.i2l dL_law_961 ?_
      refine C.lcmp dL_law_962 ?_
      rw [hg, lg_same]
      refine C.if_eqI (tgt := 968) dL_law_963 (by decide) (by decide) (fun hc963 => ?_) (fun hc963 => absurd hc963 (by decide))
      refine C.goto (tgt := 1076) dL_law_968 (by decide) ?_
      exact C.wide (by omega) (by omega) (kk _ _ _ _ hRI)
    · refine C.iload dL_law_951 rfl ?_
      refine C.if_neI (tgt := 968) dL_law_953 (by decide) (by omega) (fun hc953 => ?_) (fun hc953 => absurd hc953 (fun h => hc0 h))
      refine C.goto (tgt := 1076) dL_law_968 (by decide) ?_
      exact C.wide (by omega) (by omega) (kk _ _ _ _ hRI)
  · skip
    obtain ⟨d2, mc2, ms2, PoW, hd2, hm2, hs2, M, hP⟩ := Q true
    refine C.aload_n dL_law_863 rfl ?_
    refine C.aload_n dL_law_864 rfl ?_
    refine C.iload dL_law_865 rfl ?_
    refine C.ic dL_law_867 ?_
    refine C.iaddI dL_law_868 ?_
    refine C0.scr dL_law_869 (by omega) (by omega) hn ?_
    refine C.if_eqI (tgt := 877) dL_law_870 (by decide) (hsx _) (fun hc870 => absurd hc870 hb0) (fun hc870 => ?_)
    refine C.ic dL_law_873 ?_
    refine C.goto (tgt := 878) dL_law_874 (by decide) ?_
    refine C.aload_n dL_law_878 rfl ?_
    refine C.iload dL_law_879 rfl ?_
    refine C.ic dL_law_881 ?_
    refine C.iaddI dL_law_882 ?_
    refine C0.scr dL_law_883 (by omega) (by omega) hn ?_
    refine C.aload_n dL_law_884 rfl ?_
    refine C.iload dL_law_885 rfl ?_
    refine C.ic dL_law_887 ?_
    refine C.iaddI dL_law_888 ?_
    refine C0.scr dL_law_889 (by omega) (by omega) hn ?_
    refine C.aload_n dL_law_890 rfl ?_
    refine C.iload dL_law_891 rfl ?_
    refine C.ic dL_law_893 ?_
    refine C.iaddI dL_law_894 ?_
    refine C0.scr dL_law_895 (by omega) (by omega) hn ?_
    refine C.aload_n dL_law_896 rfl ?_
    skip
    refine C0.callW (k := 6) M (om_wsL_law0_r7 _ (List.mem_of_getElem? (i := 2) rfl)) (om_wsL_law0_r46 _ (List.mem_of_getElem? (i := 7) rfl)) ⟨by decide +kernel, by decide +kernel, by decide +kernel⟩ (by decide) ml_L_128 sm_L_ask dL_law_897 rfl hd2 (by omega) (by omega) (Nat.le_of_ble_eq_true rfl) rfl (fun r L1 f1 hR => ?_)
    obtain ⟨code, w, g, sf, sa, rfl, hL, h35, hg0, hcd, hov, M1⟩ := hP _ _ _ hR
    refine C.istore dL_law_900 (by decide) rfl ?_
    refine C.aload_n dL_law_902 rfl ?_
    refine C.aload_n dL_law_903 rfl ?_
    refine C.iload dL_law_904 rfl ?_
    refine C.ic dL_law_906 ?_
    refine C.iaddI dL_law_907 ?_
    refine C0.scr dL_law_908 (by omega) (by omega) hn ?_
    refine C.if_eqI (tgt := 916) dL_law_909 (by decide) (hsx _) (fun hc909 => absurd hc909 hb0) (fun hc909 => ?_)
    refine C.ic dL_law_912 ?_
    refine C.goto (tgt := 917) dL_law_913 (by decide) ?_
    refine C.aload_n dL_law_917 rfl ?_
    refine C.iload dL_law_918 rfl ?_
    refine C.ic dL_law_920 ?_
    refine C.iaddI dL_law_921 ?_
    refine C0.scr dL_law_922 (by omega) (by omega) hn ?_
    refine C.aload_n dL_law_923 rfl ?_
    refine C.iload dL_law_924 rfl ?_
    refine C.ic dL_law_926 ?_
    refine C.iaddI dL_law_927 ?_
    refine C0.scr dL_law_928 (by omega) (by omega) hn ?_
    refine C.aload_n dL_law_929 rfl ?_
    refine C.iload dL_law_930 rfl ?_
    refine C.ic dL_law_932 ?_
    refine C.iaddI dL_law_933 ?_
    refine C0.scr dL_law_934 (by omega) (by omega) hn ?_
    skip
    have M2 := M1 L1 f1 hL
    rw [← hov] at M2
    refine C.callV M2 cw_X9_ask ml_L_131 im_X9_ask sl_X9_ask dL_law_935 (hL 20 (by decide)) (show f1 20 = .inr (11, mo sf) from congrFun hov 20) rfl rfl (by decide) (by omega) (by omega) (Nat.le_of_ble_eq_true rfl) rfl (fun r2 L2 f2 hR2 => ?_)
    obtain ⟨sf2, sa2, ⟨⟨w2, rfl, hw, hb⟩, hs0, hRI⟩, rfl, rfl⟩ := hR2
    refine C.istore dL_law_938 (by decide) rfl ?_
    refine C.aload_n dL_law_940 rfl ?_
    skip
    refine C.mcall hL (m_thrown (d := 1200)) cw_X9_thrown ml_L_82 im_X9_thrown sl_X9_thrown dL_law_941 rfl rfl (by decide) (by omega) (by omega) (Nat.le_of_ble_eq_true rfl) rfl (fun r3 sf3 sa3 hR3 => ?_)
    obtain ⟨rfl, hs3, ha3⟩ := hR3
    rw [hs3, ha3, hs0]
    refine C.iload dL_law_944 rfl ?_
    refine C.icmp_eq (tgt := 951) dL_law_946 (by decide) (fun _ => ?_) (fun h => absurd rfl h)
    skip
    by_cases hc0 : code = 0
    · refine C.iload dL_law_951 rfl ?_
      refine C.if_neI (tgt := 968) dL_law_953 (by decide) (by omega) (fun hc953 => absurd hc953 (fun h => h hc0)) (fun hc953 => ?_)
      skip
      have hg := hg0 hc0
      have hw := hw hc0
      subst hw
      refine C.aload_n dL_law_956 rfl ?_
      refine C.ic dL_law_957 ?_
      refine C.lald0 dL_law_958 (hL 35 (by decide)) h35 ?_
      refine C.iload dL_law_959 rfl ?_
      refine C.i2l dL_law_961 ?_
      refine C.lcmp dL_law_962 ?_
      rw [hg, lg_same]
      refine C.if_eqI (tgt := 968) dL_law_963 (by decide) (by decide) (fun hc963 => ?_) (fun hc963 => absurd hc963 (by decide))
      refine C.goto (tgt := 1076) dL_law_968 (by decide) ?_
      exact C.wide (by omega) (by omega) (kk _ _ _ _ hRI)
    · refine C.iload dL_law_951 rfl ?_
      refine C.if_neI (tgt := 968) dL_law_953 (by decide) (by omega) (fun hc953 => ?_) (fun hc953 => absurd hc953 (fun h => hc0 h))
      refine C.goto (tgt := 1076) dL_law_968 (by decide) ?_
      exact C.wide (by omega) (by omega) (kk _ _ _ _ hRI)
theorem law_days (C0 : Lx n sx 1300 601024 7293034 X) (hn : n ≤ 3072) (hi : 0 ≤ i ∧ i + 6 ≤ n) (hce : ce + 1173 ≤ 601024) (hsl : sl + 14047 ≤ 7293034) (Q : Prs (fun d2 mc2 ms2 P => AW yL_days cL_days 6 (some .int) [(0, 12, 15, 19)] d2 mc2 ms2 [.ref 0, .int (iI (sx (i + 1).toNat)), .int (iI (sx (i + 2).toNat)), .int (iI (sx (i + 3).toNat)), .ref 35] L f P) (Pst t yX9_days cX9_days 6 (some .int) [.int (iI (sx (i + 1).toNat)), .int (iI (sx (i + 2).toNat)), .int (iI (sx (i + 3).toNat))] Bny)) (kk : ∀ L f v5 v6, RI (t + 1) L f → X (ce + 1173) (sl + 14047) L f 1076 (lwV i v5 v6) []) : X ce sl L f 971 (lwV i v5 v6) [] := by
  have C := C0.C
  obtain ⟨d2, mc2, ms2, PoW, hd2, hm2, hs2, M, hP⟩ := Q
  refine C.aload_n dL_law_971 rfl ?_
  refine C.aload_n dL_law_972 rfl ?_
  refine C.iload dL_law_973 rfl ?_
  refine C.ic dL_law_975 ?_
  refine C.iaddI dL_law_976 ?_
  refine C0.scr dL_law_977 (by omega) (by omega) hn ?_
  refine C.aload_n dL_law_978 rfl ?_
  refine C.iload dL_law_979 rfl ?_
  refine C.ic dL_law_981 ?_
  refine C.iaddI dL_law_982 ?_
  refine C0.scr dL_law_983 (by omega) (by omega) hn ?_
  refine C.aload_n dL_law_984 rfl ?_
  refine C.iload dL_law_985 rfl ?_
  refine C.ic dL_law_987 ?_
  refine C.iaddI dL_law_988 ?_
  refine C0.scr dL_law_989 (by omega) (by omega) hn ?_
  refine C.aload_n dL_law_990 rfl ?_
  skip
  refine C0.callW (k := 5) M (om_wsL_law0_r7 _ (List.mem_of_getElem? (i := 2) rfl)) (om_wsL_law0_r47 _ (List.mem_of_getElem? (i := 4) rfl)) ⟨by decide +kernel, by decide +kernel, by decide +kernel⟩ (by decide) ml_L_132 sm_L_days dL_law_991 rfl hd2 (by omega) (by omega) (Nat.le_of_ble_eq_true rfl) rfl (fun r L1 f1 hR => ?_)
  obtain ⟨code, w, g, sf, sa, rfl, hL, h35, hg0, hcd, hov, M1⟩ := hP _ _ _ hR
  refine C.istore dL_law_994 (by decide) rfl ?_
  refine C.aload_n dL_law_996 rfl ?_
  refine C.aload_n dL_law_997 rfl ?_
  refine C.iload dL_law_998 rfl ?_
  refine C.ic dL_law_1000 ?_
  refine C.iaddI dL_law_1001 ?_
  refine C0.scr dL_law_1002 (by omega) (by omega) hn ?_
  refine C.aload_n dL_law_1003 rfl ?_
  refine C.iload dL_law_1004 rfl ?_
  refine C.ic dL_law_1006 ?_
  refine C.iaddI dL_law_1007 ?_
  refine C0.scr dL_law_1008 (by omega) (by omega) hn ?_
  refine C.aload_n dL_law_1009 rfl ?_
  refine C.iload dL_law_1010 rfl ?_
  refine C.ic dL_law_1012 ?_
  refine C.iaddI dL_law_1013 ?_
  refine C0.scr dL_law_1014 (by omega) (by omega) hn ?_
  skip
  have M2 := M1 L1 f1 hL
  rw [← hov] at M2
  refine C.callV M2 cw_X9_days ml_L_135 im_X9_days sl_X9_days dL_law_1015 (hL 20 (by decide)) (show f1 20 = .inr (11, mo sf) from congrFun hov 20) rfl rfl (by decide) (by omega) (by omega) (Nat.le_of_ble_eq_true rfl) rfl (fun r2 L2 f2 hR2 => ?_)
  obtain ⟨sf2, sa2, ⟨⟨w2, rfl, hw, hb⟩, hs0, hRI⟩, rfl, rfl⟩ := hR2
  refine C.istore dL_law_1018 (by decide) rfl ?_
  refine C.aload_n dL_law_1020 rfl ?_
  skip
  refine C.mcall hL (m_thrown (d := 1200)) cw_X9_thrown ml_L_82 im_X9_thrown sl_X9_thrown dL_law_1021 rfl rfl (by decide) (by omega) (by omega) (Nat.le_of_ble_eq_true rfl) rfl (fun r3 sf3 sa3 hR3 => ?_)
  obtain ⟨rfl, hs3, ha3⟩ := hR3
  rw [hs3, ha3, hs0]
  refine C.iload dL_law_1024 rfl ?_
  refine C.icmp_eq (tgt := 1031) dL_law_1026 (by decide) (fun _ => ?_) (fun h => absurd rfl h)
  skip
  by_cases hc0 : code = 0
  · refine C.iload dL_law_1031 rfl ?_
    refine C.if_neI (tgt := 1048) dL_law_1033 (by decide) (by omega) (fun hc1033 => absurd hc1033 (fun h => h hc0)) (fun hc1033 => ?_)
    skip
    have hg := hg0 hc0
    have hw := hw hc0
    subst hw
    refine C.aload_n dL_law_1036 rfl ?_
    refine C.ic dL_law_1037 ?_
    refine C.lald0 dL_law_1038 (hL 35 (by decide)) h35 ?_
    refine C.iload dL_law_1039 rfl ?_
    refine C.i2l dL_law_1041 ?_
    refine C.lcmp dL_law_1042 ?_
    rw [hg, lg_same]
    refine C.if_eqI (tgt := 1048) dL_law_1043 (by decide) (by decide) (fun hc1043 => ?_) (fun hc1043 => absurd hc1043 (by decide))
    refine C.goto (tgt := 1076) dL_law_1048 (by decide) ?_
    exact C.wide (by omega) (by omega) (kk _ _ _ _ hRI)
  · refine C.iload dL_law_1031 rfl ?_
    refine C.if_neI (tgt := 1048) dL_law_1033 (by decide) (by omega) (fun hc1033 => ?_) (fun hc1033 => absurd hc1033 (fun h => hc0 h))
    refine C.goto (tgt := 1076) dL_law_1048 (by decide) ?_
    exact C.wide (by omega) (by omega) (kk _ _ _ _ hRI)
theorem law_count (C0 : Lx n sx 1300 601024 7293034 X) (hn : n ≤ 3072) (hi : 0 ≤ i ∧ i + 6 ≤ n) (hce : ce + 1173 ≤ 601024) (hsl : sl + 14047 ≤ 7293034) (Q : Prd (fun P => AM yX8_count cX8_count 2 (some .int) 1000 0 0 [.ref 0, .int (iI (sx (i + 1).toNat))] L f P) (Pdr t yX9_count cX9_count 2 (some .int) [.int (iI (sx (i + 1).toNat))])) (h0L : 0 ∈ L) {fs : List Value} (h0f : f 0 = .inr (10, fs)) (kk : ∀ L f v5 v6, RI (t + 1) L f → X (ce + 1173) (sl + 14047) L f 1076 (lwV i v5 v6) []) : X ce sl L f 1051 (lwV i v5 v6) [] := by
  have C := C0.C
  obtain ⟨PoW, M, hP⟩ := Q
  refine C.aload_n dL_law_1051 rfl ?_
  refine C.aload_n dL_law_1052 rfl ?_
  refine C.iload dL_law_1053 rfl ?_
  refine C.ic dL_law_1055 ?_
  refine C.iaddI dL_law_1056 ?_
  refine C0.scr dL_law_1057 (by omega) (by omega) hn ?_
  skip
  refine C.callV M cw_X8_count ml_L_136 im_X8_count sl_X8_count dL_law_1058 h0L h0f rfl rfl (by decide) (by omega) (by omega) (Nat.le_of_ble_eq_true rfl) rfl (fun r L1 f1 hR => ?_)
  obtain ⟨w, sf, sa, rfl, hL, hov, M1⟩ := hP _ _ _ hR
  refine C.aload_n dL_law_1061 rfl ?_
  refine C.aload_n dL_law_1062 rfl ?_
  refine C.iload dL_law_1063 rfl ?_
  refine C.ic dL_law_1065 ?_
  refine C.iaddI dL_law_1066 ?_
  refine C0.scr dL_law_1067 (by omega) (by omega) hn ?_
  skip
  have M2 := M1 L1 f1 hL
  rw [← hov] at M2
  refine C.callV M2 cw_X9_count ml_L_139 im_X9_count sl_X9_count dL_law_1068 (hL 20 (by decide)) (show f1 20 = .inr (11, mo sf) from congrFun hov 20) rfl rfl (by decide) (by omega) (by omega) (Nat.le_of_ble_eq_true rfl) rfl (fun r2 L2 f2 hR2 => ?_)
  obtain ⟨sf2, sa2, ⟨rfl, hRI⟩, rfl, rfl⟩ := hR2
  refine C.icmp_eq (tgt := 1076) dL_law_1071 (by decide) (fun _ => ?_) (fun h => absurd rfl h)
  exact C.wide (by omega) (by omega) (kk _ _ _ _ hRI)
end LAWC
