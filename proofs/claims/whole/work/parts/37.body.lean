theorem actF_ok {tb : Nat → Int} {e : Nat} : ∀ (n : Nat) (acc : List Int) (p : Nat) (has : Bool), acc.length + n = 3 → p ≤ e → (∀ v ∈ acc, 0 ≤ v ∧ v ≤ 9) → acc.Nodup → ∀ xs q, actF tb e n acc p has = .inl (xs, q) → xs.length ≤ 3 ∧ 1 ≤ xs.length ∧ (∀ v ∈ xs, 0 ≤ v ∧ v ≤ 9) ∧ xs.Nodup ∧ q ≤ e := by
  intro n
  induction n with
  | zero => intro acc p has _ _ _ _ xs q h; simp [actF] at h
  | succ n ih =>
    intro acc p has hl hp hv hn xs q h
    have body : ∀ p1, p1 ≤ e → actG tb e (fun acc p => actF tb e n acc p false) acc p1 = .inl (xs, q) → xs.length ≤ 3 ∧ 1 ≤ xs.length ∧ (∀ v ∈ xs, 0 ≤ v ∧ v ≤ 9) ∧ xs.Nodup ∧ q ≤ e := by
      intro p1 hp1 h1
      have hb := bl_le (tb := tb) hp1
      have hde : dend tb e (bl tb e p1) ≤ e := sk_le hb
      have hb2 := bl_le (tb := tb) hde
      unfold actG at h1
      split at h1
      · cases h1
      · rename_i hnv
        have hnv1 : nmV tb e (bl tb e p1) 0 9 ∉ acc := fun z => hnv (Or.inl z)
        have hnv2 : ¬ nmV tb e (bl tb e p1) 0 9 < 0 := fun z => hnv (Or.inr z)
        obtain ⟨-, n2, n3⟩ := nmV_pos (by omega) hnv2
        have hv2 : ∀ v ∈ acc ++ [nmV tb e (bl tb e p1) 0 9], 0 ≤ v ∧ v ≤ 9 := fun v hvv => by
          rcases List.mem_append.mp hvv with z | z
          · exact hv v z
          · rw [List.mem_singleton.mp z]; exact ⟨n3, n2⟩
        have hn2 : (acc ++ [nmV tb e (bl tb e p1) 0 9]).Nodup := List.nodup_append.mpr ⟨hn, List.nodup_cons.mpr ⟨(fun z => by cases z), List.nodup_nil⟩, fun a ha b hb2 e1 => hnv1 (by rw [← List.mem_singleton.mp hb2, ← e1]; exact ha)⟩
        split at h1
        · split at h1
          · cases h1
          · exact ih _ _ _ (by simp; omega) (wend_le hb2) hv2 hn2 xs q h1
        · cases h1
          refine ⟨by simp; omega, by simp, hv2, hn2, hb2⟩
    unfold actF at h
    have hb := bl_le (tb := tb) hp
    split at h
    · exact body p hp h
    · split at h
      · exact body _ (wend_le hb) h
      · cases h
/-- acts, who, mode, passive -/
abbrev BD : Type := List Int × Int × Int × Int
def bodyP (tb : Nat → Int) (e p : Nat) : (BD × Nat) ⊕ Nat :=
  if 0 ≤ whoV tb e p then
    (if modV tb e (whoQ tb e p) < 0 then .inr (bl tb e (whoQ tb e p)) else match actF tb e 3 [] (modQ tb e (whoQ tb e p)) false with
      | .inr b => .inr b
      | .inl q => .inl ((q.1, whoV tb e p, modV tb e (whoQ tb e p), 0), q.2))
  else if psP tb e p zAct then (match actF tb e 3 [] (wend tb e (bl tb e p)) true with
      | .inr b => .inr b
      | .inl q => if modV tb e q.2 < 0 then .inr (bl tb e q.2)
        else if psP tb e (modQ tb e q.2) zBe then
          (if psP tb e (wend tb e (bl tb e (modQ tb e q.2))) zDone then
            (if psP tb e (wend tb e (bl tb e (wend tb e (bl tb e (modQ tb e q.2))))) zBy then
              (if whoV tb e (wend tb e (bl tb e (wend tb e (bl tb e (wend tb e (bl tb e (modQ tb e q.2))))))) < 0 then .inr (bl tb e (wend tb e (bl tb e (wend tb e (bl tb e (wend tb e (bl tb e (modQ tb e q.2))))))))
               else .inl ((q.1, whoV tb e (wend tb e (bl tb e (wend tb e (bl tb e (wend tb e (bl tb e (modQ tb e q.2))))))), modV tb e q.2, 1), whoQ tb e (wend tb e (bl tb e (wend tb e (bl tb e (wend tb e (bl tb e (modQ tb e q.2)))))))))
             else .inl ((q.1, 3, modV tb e q.2, 1), bl tb e (wend tb e (bl tb e (wend tb e (bl tb e (modQ tb e q.2)))))))
           else .inr (bl tb e (wend tb e (bl tb e (modQ tb e q.2)))))
        else .inr (bl tb e (modQ tb e q.2)))
  else .inr (bl tb e p)
/-- only the body of sentence s may differ -/
def GbB (sa sa' : SA) (s : Nat) : Prop := ∀ a j, ¬ ((a = 21 ∨ a = 23 ∨ a = 24 ∨ a = 26) ∧ j = s) → ¬ (a = 22 ∧ 3 * s ≤ j ∧ j < 3 * s + 3) → sa' a j = sa a j
theorem GbB.rf {sa : SA} {s : Nat} : GbB sa sa s := fun _ _ _ _ => rfl
theorem GbB.tr {s1 s2 s3 : SA} {s : Nat} (h1 : GbB s1 s2 s) (h2 : GbB s2 s3 s) : GbB s1 s3 s := fun a j x y => (h2 a j x y).trans (h1 a j x y)
theorem GbB.up {s1 s2 : SA} {s a : Nat} {v : Int} (h : GbB s1 s2 s) (ha : a = 21 ∨ a = 23 ∨ a = 24 ∨ a = 26) : GbB s1 (va_up s2 a (va_up (s2 a) s v)) s := fun c j x y => by
  rw [← h c j x y]
  by_cases hc : c = a
  · subst hc
    rw [va_up_self, va_up_ne _ _ (fun e => x ⟨ha, e⟩)]
  · rw [va_up_ne _ _ hc]
theorem GbB.act {s1 s2 : SA} {s : Nat} {xs : List Int} (h : GbB s1 s2 s) (hx : xs.length ≤ 3) : GbB s1 (actS s2 s xs) s := fun c j x y => by
  rw [← h c j x y]
  unfold actS
  rw [if_neg (fun e => x ⟨Or.inl e.1, e.2⟩), if_neg (fun e => y ⟨e.1, e.2.1, by omega⟩)]
def BodyAt (sa : SA) (s : Nat) (b : BD) : Prop := sa 21 s = b.1.length ∧ (∀ k, k < b.1.length → sa 22 (3 * s + k) = b.1.getD k 0) ∧ sa 23 s = b.2.1 ∧ sa 24 s = b.2.2.1 ∧ sa 26 s = b.2.2.2
set_option maxRecDepth 20000 in
set_option maxHeartbeats 2000000 in
theorem m_readBody {d p e s : Nat} (hd : 8 ≤ d) (hs : s < 100) {sf : SF} {sa : SA} (h : PD e p sf sa) (h0 : sa 21 s = 0) (h26 : sa 26 s = 0) : MM yX9_readBody cX9_readBody 2 (some .boolean) d [.int (iI s)] sf sa (fun r sf' sa' => match bodyP (sa 32) e p with
    | .inl q => r = some (.int (iI 1)) ∧ (Gf sf sf' ∧ sf' 22 = q.2) ∧ GbB sa sa' s ∧ BodyAt sa' s q.1
    | .inr b => r = some (.int (iI 0)) ∧ (Gf sf sf' ∧ sf' 24 = b) ∧ GbB sa sa' s) := by
  have hb := bl_le (tb := sa 32) h.2.2.1
  have hW := m_readWho (d := d - 1) (by omega) h
  have hwr : -1 ≤ whoV (sa 32) e p ∧ whoV (sa 32) e p ≤ 2 := by unfold whoV; repeat' split <;> omega
  have hwq := whoQ_le (tb := sa 32) h.2.2.1
  by_cases hw : 0 ≤ whoV (sa 32) e p
  · -- active
    have hmq := modQ_le (tb := sa 32) hwq
    have eB : bodyP (sa 32) e p = if modV (sa 32) e (whoQ (sa 32) e p) < 0 then .inr (bl (sa 32) e (whoQ (sa 32) e p)) else match actF (sa 32) e 3 [] (modQ (sa 32) e (whoQ (sa 32) e p)) false with
      | .inr b => .inr b
      | .inl q => .inl ((q.1, whoV (sa 32) e p, modV (sa 32) e (whoQ (sa 32) e p), 0), q.2) := by
      unfold bodyP; rw [if_pos hw]
    by_cases hm : modV (sa 32) e (whoQ (sa 32) e p) < 0
    · rw [if_pos hm] at eB
      rw [eB]
      refine MM.of2 (by decide +kernel) rfl (Nat.le_of_ble_eq_true rfl) (fun L g hL X C => ?_)
      refine C.aload_n dX9_readBody_0 rfl ?_
      refine C.mget hL gf_X9_16 dX9_readBody_1 rfl ?_
      refine C.iload_n dX9_readBody_4 rfl ?_
      refine C.aload_n dX9_readBody_5 rfl ?_
      refine C.mcall hL (hW) cw_X9_readWho ml_X9_175 im_X9_readWho sl_X9_readWho dX9_readBody_6 rfl rfl (by omega) (Nat.le_refl _) (Nat.le_refl _) (Nat.le_of_ble_eq_true rfl) rfl (fun r6 sf6 sa6 hR6 => ?_)
      obtain ⟨rfl, ⟨g1, g2, g3⟩, ha⟩ := hR6
      rw [ha]
      clear ha
      have hq := h.go (q := whoQ (sa 32) e p) (sa' := va_up sa 23 (va_up (sa 23) s (whoV (sa 32) e p))) g1 g2 hwq rfl
      have hM := m_readMode (d := d - 1) (s := s) (by omega) hs hq
      rw [show va_up sa 23 (va_up (sa 23) s (whoV (sa 32) e p)) 32 = sa 32 from rfl, if_pos hm, show decide (0 ≤ modV (sa 32) e (whoQ (sa 32) e p)) = false from by simp; omega] at hM
      refine C.mastk hL (ovs_23 _ _ _) dX9_readBody_9 (by decide) rfl (by decide) rfl (by omega) ?_
      refine C.aload_n dX9_readBody_10 rfl ?_
      refine C.mget hL gf_X9_16 dX9_readBody_11 rfl ?_
      refine C.iload_n dX9_readBody_14 rfl ?_
      refine C.maldk hL dX9_readBody_15 (by decide) rfl (by decide) rfl (by omega) ?_
      refine C.topI (b := whoV (sa 32) e p) (va_up_self (sa 23) _ _) ?_
      refine C.if_ltI (tgt := 42) dX9_readBody_16 (by decide) (by omega) (fun hc16 => absurd hc16 (by omega)) (fun hc16 => ?_)
      refine C.aload_n dX9_readBody_19 rfl ?_
      refine C.iload_n dX9_readBody_20 rfl ?_
      refine C.mcall hL (hM) cw_X9_readMode ml_X9_178 im_X9_readMode sl_X9_readMode dX9_readBody_21 rfl rfl (by omega) (Nat.le_refl _) (Nat.le_refl _) (Nat.le_of_ble_eq_true rfl) rfl (fun r21 sf21 sa21 hR21 => ?_)
      obtain ⟨rfl, ⟨k1, k2, k3⟩, ha⟩ := hR21
      rw [ha]
      clear ha
      refine C.if_eqI (tgt := 40) dX9_readBody_24 (by decide) (by decide) (fun hc24 => ?_) (fun hc24 => absurd hc24 (fun h => h rfl))
      refine C.ic dX9_readBody_40 ?_
      refine C.retI rfl (by first | rfl | (exact (iI_bool (by first | exact Or.inl rfl | exact Or.inr rfl | assumption)).1)) dX9_readBody_41 (Nat.le_refl _) (Nat.le_refl _) ⟨_, _, ?_, rfl, rfl⟩
      exact ⟨rfl, ⟨g1.tr k1, k3 hm⟩, GbB.rf.up (by omega)⟩
    · rw [if_neg hm] at eB
      cases hf : actF (sa 32) e 3 [] (modQ (sa 32) e (whoQ (sa 32) e p)) false with
      | inr b =>
        rw [hf] at eB
        simp only [] at eB
        rw [eB]
        refine MM.of2 (by decide +kernel) rfl (Nat.le_of_ble_eq_true rfl) (fun L g hL X C => ?_)
        refine C.aload_n dX9_readBody_0 rfl ?_
        refine C.mget hL gf_X9_16 dX9_readBody_1 rfl ?_
        refine C.iload_n dX9_readBody_4 rfl ?_
        refine C.aload_n dX9_readBody_5 rfl ?_
        refine C.mcall hL (hW) cw_X9_readWho ml_X9_175 im_X9_readWho sl_X9_readWho dX9_readBody_6 rfl rfl (by omega) (Nat.le_refl _) (Nat.le_refl _) (Nat.le_of_ble_eq_true rfl) rfl (fun r6 sf6 sa6 hR6 => ?_)
        obtain ⟨rfl, ⟨g1, g2, g3⟩, ha⟩ := hR6
        rw [ha]
        clear ha
        have hq := h.go (q := whoQ (sa 32) e p) (sa' := va_up sa 23 (va_up (sa 23) s (whoV (sa 32) e p))) g1 g2 hwq rfl
        have hM := m_readMode (d := d - 1) (s := s) (by omega) hs hq
        rw [show va_up sa 23 (va_up (sa 23) s (whoV (sa 32) e p)) 32 = sa 32 from rfl, if_neg hm, show decide (0 ≤ modV (sa 32) e (whoQ (sa 32) e p)) = true from by simp; omega] at hM
        refine C.mastk hL (ovs_23 _ _ _) dX9_readBody_9 (by decide) rfl (by decide) rfl (by omega) ?_
        refine C.aload_n dX9_readBody_10 rfl ?_
        refine C.mget hL gf_X9_16 dX9_readBody_11 rfl ?_
        refine C.iload_n dX9_readBody_14 rfl ?_
        refine C.maldk hL dX9_readBody_15 (by decide) rfl (by decide) rfl (by omega) ?_
        refine C.topI (b := whoV (sa 32) e p) (va_up_self (sa 23) _ _) ?_
        refine C.if_ltI (tgt := 42) dX9_readBody_16 (by decide) (by omega) (fun hc16 => absurd hc16 (by omega)) (fun hc16 => ?_)
        refine C.aload_n dX9_readBody_19 rfl ?_
        refine C.iload_n dX9_readBody_20 rfl ?_
        refine C.mcall hL (hM) cw_X9_readMode ml_X9_178 im_X9_readMode sl_X9_readMode dX9_readBody_21 rfl rfl (by omega) (Nat.le_refl _) (Nat.le_refl _) (Nat.le_of_ble_eq_true rfl) rfl (fun r21 sf21 sa21 hR21 => ?_)
        obtain ⟨rfl, ⟨k1, k2, k3⟩, ha⟩ := hR21
        rw [ha]
        clear ha
        have hq2 := hq.go (q := modQ (sa 32) e (whoQ (sa 32) e p)) (sa' := va_up (va_up sa 23 (va_up (sa 23) s (whoV (sa 32) e p))) 24 (va_up (sa 24) s (modV (sa 32) e (whoQ (sa 32) e p)))) k1 k2 hmq rfl
        have hA := m_readActs (d := d - 1) (s := s) (has := false) (by omega) hs hq2 h0
        rw [show va_up (va_up sa 23 (va_up (sa 23) s (whoV (sa 32) e p))) 24 (va_up (sa 24) s (modV (sa 32) e (whoQ (sa 32) e p))) 32 = sa 32 from rfl, hf] at hA
        refine C.if_eqI (tgt := 40) dX9_readBody_24 (by decide) (by decide) (fun hc24 => absurd hc24 (by decide)) (fun hc24 => ?_)
        refine C.aload_n dX9_readBody_27 rfl ?_
        refine C.iload_n dX9_readBody_28 rfl ?_
        refine C.ic dX9_readBody_29 ?_
        refine C.mcall hL (hA) cw_X9_readActs ml_X9_181 im_X9_readActs sl_X9_readActs dX9_readBody_30 rfl rfl (by omega) (Nat.le_refl _) (Nat.le_refl _) (Nat.le_of_ble_eq_true rfl) rfl (fun r30 sf30 sa30 hR30 => ?_)
        obtain ⟨rfl, ⟨n1, n2⟩, acc, n3, ha⟩ := hR30
        rw [ha]
        clear ha
        refine C.if_eqI (tgt := 40) dX9_readBody_33 (by decide) (by decide) (fun hc33 => ?_) (fun hc33 => absurd hc33 (fun h => h rfl))
        refine C.ic dX9_readBody_40 ?_
        refine C.retI rfl (by first | rfl | (exact (iI_bool (by first | exact Or.inl rfl | exact Or.inr rfl | assumption)).1)) dX9_readBody_41 (Nat.le_refl _) (Nat.le_refl _) ⟨_, _, ?_, rfl, rfl⟩
        exact ⟨rfl, ⟨(g1.tr k1).tr n1, n2⟩, ((GbB.rf.up (a := 23) (by omega)).up (a := 24) (by omega)).act n3⟩
      | inl q =>
        rw [hf] at eB
        simp only [] at eB
        obtain ⟨x1, x2, x3, x4, x5⟩ := actF_ok 3 [] _ false rfl hmq (fun v hv => by cases hv) List.nodup_nil q.1 q.2 hf
        rw [eB]
        refine MM.of2 (by decide +kernel) rfl (Nat.le_of_ble_eq_true rfl) (fun L g hL X C => ?_)
        refine C.aload_n dX9_readBody_0 rfl ?_
        refine C.mget hL gf_X9_16 dX9_readBody_1 rfl ?_
        refine C.iload_n dX9_readBody_4 rfl ?_
        refine C.aload_n dX9_readBody_5 rfl ?_
        refine C.mcall hL (hW) cw_X9_readWho ml_X9_175 im_X9_readWho sl_X9_readWho dX9_readBody_6 rfl rfl (by omega) (Nat.le_refl _) (Nat.le_refl _) (Nat.le_of_ble_eq_true rfl) rfl (fun r6 sf6 sa6 hR6 => ?_)
        obtain ⟨rfl, ⟨g1, g2, g3⟩, ha⟩ := hR6
        rw [ha]
        clear ha
        have hq := h.go (q := whoQ (sa 32) e p) (sa' := va_up sa 23 (va_up (sa 23) s (whoV (sa 32) e p))) g1 g2 hwq rfl
        have hM := m_readMode (d := d - 1) (s := s) (by omega) hs hq
        rw [show va_up sa 23 (va_up (sa 23) s (whoV (sa 32) e p)) 32 = sa 32 from rfl, if_neg hm, show decide (0 ≤ modV (sa 32) e (whoQ (sa 32) e p)) = true from by simp; omega] at hM
        refine C.mastk hL (ovs_23 _ _ _) dX9_readBody_9 (by decide) rfl (by decide) rfl (by omega) ?_
        refine C.aload_n dX9_readBody_10 rfl ?_
        refine C.mget hL gf_X9_16 dX9_readBody_11 rfl ?_
        refine C.iload_n dX9_readBody_14 rfl ?_
        refine C.maldk hL dX9_readBody_15 (by decide) rfl (by decide) rfl (by omega) ?_
        refine C.topI (b := whoV (sa 32) e p) (va_up_self (sa 23) _ _) ?_
        refine C.if_ltI (tgt := 42) dX9_readBody_16 (by decide) (by omega) (fun hc16 => absurd hc16 (by omega)) (fun hc16 => ?_)
        refine C.aload_n dX9_readBody_19 rfl ?_
        refine C.iload_n dX9_readBody_20 rfl ?_
        refine C.mcall hL (hM) cw_X9_readMode ml_X9_178 im_X9_readMode sl_X9_readMode dX9_readBody_21 rfl rfl (by omega) (Nat.le_refl _) (Nat.le_refl _) (Nat.le_of_ble_eq_true rfl) rfl (fun r21 sf21 sa21 hR21 => ?_)
        obtain ⟨rfl, ⟨k1, k2, k3⟩, ha⟩ := hR21
        rw [ha]
        clear ha
        have hq2 := hq.go (q := modQ (sa 32) e (whoQ (sa 32) e p)) (sa' := va_up (va_up sa 23 (va_up (sa 23) s (whoV (sa 32) e p))) 24 (va_up (sa 24) s (modV (sa 32) e (whoQ (sa 32) e p)))) k1 k2 hmq rfl
        have hA := m_readActs (d := d - 1) (s := s) (has := false) (by omega) hs hq2 h0
        rw [show va_up (va_up sa 23 (va_up (sa 23) s (whoV (sa 32) e p))) 24 (va_up (sa 24) s (modV (sa 32) e (whoQ (sa 32) e p))) 32 = sa 32 from rfl, hf] at hA
        refine C.if_eqI (tgt := 40) dX9_readBody_24 (by decide) (by decide) (fun hc24 => absurd hc24 (by decide)) (fun hc24 => ?_)
        refine C.aload_n dX9_readBody_27 rfl ?_
        refine C.iload_n dX9_readBody_28 rfl ?_
        refine C.ic dX9_readBody_29 ?_
        refine C.mcall hL (hA) cw_X9_readActs ml_X9_181 im_X9_readActs sl_X9_readActs dX9_readBody_30 rfl rfl (by omega) (Nat.le_refl _) (Nat.le_refl _) (Nat.le_of_ble_eq_true rfl) rfl (fun r30 sf30 sa30 hR30 => ?_)
        obtain ⟨rfl, ⟨n1, n2⟩, ha⟩ := hR30
        rw [ha]
        clear ha
        refine C.if_eqI (tgt := 40) dX9_readBody_33 (by decide) (by decide) (fun hc33 => absurd hc33 (by decide)) (fun hc33 => ?_)
        refine C.ic dX9_readBody_36 ?_
        refine C.goto (tgt := 41) dX9_readBody_37 (by decide) ?_
        refine C.retI rfl (by first | rfl | (exact (iI_bool (by first | exact Or.inl rfl | exact Or.inr rfl | assumption)).1)) dX9_readBody_41 (Nat.le_refl _) (Nat.le_refl _) ⟨_, _, ?_, rfl, rfl⟩
        refine ⟨rfl, ⟨(g1.tr k1).tr n1, n2⟩, ((GbB.rf.up (a := 23) (by omega)).up (a := 24) (by omega)).act x1, actS_21, fun k hk => actS_22 hk, ?_, ?_, ?_⟩
        · rw [actS_ne (by decide) (by decide)]; exact va_up_self (sa 23) _ _
        · rw [actS_ne (by decide) (by decide)]; exact va_up_self (sa 24) _ _
        · rw [actS_ne (by decide) (by decide)]; exact h26
  · -- passive
    have hwm : whoV (sa 32) e p < 0 := by omega
    have hwq2 : whoQ (sa 32) e p = bl (sa 32) e p := by unfold whoQ; rw [if_pos hwm]
    generalize hRES : bodyP (sa 32) e p = RES
    unfold bodyP at hRES
    rw [if_neg hw] at hRES
    have e32 : ∀ sac, GbB sa sac s → sac 32 = sa 32 := fun sac hg => by funext j; exact hg 32 j (by simp) (by simp)
    refine MM.of2 (by decide +kernel) rfl (Nat.le_of_ble_eq_true rfl) (fun L g hL X C => ?_)
    have failR : ∀ (b : Nat) (sfc : SF) (sac : SA) lv, RES = .inr b → Gf sf sfc → sfc 24 = b → GbB sa sac s → X 0 0 L (ov sfc sac g) 100 lv [] := by
      intro b sfc sac lv hr hg h24 hgb
      subst hr
      refine C.ic dX9_readBody_100 ?_
      refine C.retI rfl (by decide) dX9_readBody_101 (Nat.le_refl _) (Nat.le_refl _) ⟨_, _, ?_, rfl, rfl⟩
      exact ⟨rfl, ⟨hg, h24⟩, hgb⟩
    have stE : ∀ (sfc : SF) (sac : SA) (q : Nat) (acts : List Int) (m : Int), PD e q sfc sac → Gf sf sfc → GbB sa sac s → BodyAt sac s (acts, 3, m, 1) → (if psP (sa 32) e q zBy then (if whoV (sa 32) e (wend (sa 32) e (bl (sa 32) e q)) < 0 then .inr (bl (sa 32) e (wend (sa 32) e (bl (sa 32) e q))) else .inl ((acts, whoV (sa 32) e (wend (sa 32) e (bl (sa 32) e q)), m, 1), whoQ (sa 32) e (wend (sa 32) e (bl (sa 32) e q)))) else .inl ((acts, 3, m, 1), bl (sa 32) e q)) = RES → X 0 0 L (ov sfc sac g) 102 [some (.ref 20), some (.int (iI s))] [] := by
      intro sfc sac q acts m hP hG hgb hB hr
      have hbq := bl_le (tb := sa 32) hP.2.2.1
      have hwe := wend_le (tb := sa 32) hbq
      have hPs := m_passesG (d := d - 1) (by omega) hP tBy
      rw [e32 sac hgb] at hPs
      cases c1 : psP (sa 32) e q zBy with
      | false =>
        rw [c1] at hPs hr
        simp only [Bool.false_eq_true, if_false] at hPs hr
        subst hr
        refine C.aload_n dX9_readBody_102 rfl ?_
        refine C.lds dX9_readBody_103 (j := 29) rfl ?_
        refine C.mcall hL (hPs) cw_X9_passes ml_X9_143 im_X9_passes sl_X9_passes dX9_readBody_105 rfl rfl (by omega) (Nat.le_refl _) (Nat.le_refl _) (Nat.le_of_ble_eq_true rfl) rfl (fun r105 sf105 sa105 hR105 => ?_)
        obtain ⟨rfl, ⟨k1, k2, k3⟩, ha⟩ := hR105
        rw [ha]
        clear ha
        refine C.if_neI (tgt := 113) dX9_readBody_108 (by decide) (by decide) (fun hc108 => absurd hc108 (fun h => h rfl)) (fun hc108 => ?_)
        refine C.ic dX9_readBody_111 ?_
        refine C.retI rfl (by first | rfl | (exact (iI_bool (by first | exact Or.inl rfl | exact Or.inr rfl | assumption)).1)) dX9_readBody_112 (Nat.le_refl _) (Nat.le_refl _) ⟨_, _, ?_, rfl, rfl⟩
        exact ⟨rfl, ⟨hG.tr k1, k2⟩, hgb, hB⟩
      | true =>
        rw [c1] at hPs hr
        simp only [if_true] at hPs hr
        have hwr2 : -1 ≤ whoV (sa 32) e (wend (sa 32) e (bl (sa 32) e q)) ∧ whoV (sa 32) e (wend (sa 32) e (bl (sa 32) e q)) ≤ 2 := by unfold whoV; repeat' split <;> omega
        have hB2 : BodyAt (va_up sac 23 (va_up (sac 23) s (whoV (sa 32) e (wend (sa 32) e (bl (sa 32) e q))))) s (acts, whoV (sa 32) e (wend (sa 32) e (bl (sa 32) e q)), m, 1) := ⟨hB.1, hB.2.1, va_up_self (sac 23) _ _, hB.2.2.2.1, hB.2.2.2.2⟩
        refine C.aload_n dX9_readBody_102 rfl ?_
        refine C.lds dX9_readBody_103 (j := 29) rfl ?_
        refine C.mcall hL (hPs) cw_X9_passes ml_X9_143 im_X9_passes sl_X9_passes dX9_readBody_105 rfl rfl (by omega) (Nat.le_refl _) (Nat.le_refl _) (Nat.le_of_ble_eq_true rfl) rfl (fun r105 sf105 sa105 hR105 => ?_)
        obtain ⟨rfl, ⟨k1, k2, k3⟩, ha⟩ := hR105
        rw [ha]
        clear ha
        have hq := hP.go (q := wend (sa 32) e (bl (sa 32) e q)) (sa' := sac) k1 k2 hwe rfl
        have hW2 := m_readWho (d := d - 1) (by omega) hq
        rw [e32 sac hgb] at hW2
        refine C.if_neI (tgt := 113) dX9_readBody_108 (by decide) (by decide) (fun hc108 => ?_) (fun hc108 => absurd hc108 (by decide))
        refine C.aload_n dX9_readBody_113 rfl ?_
        refine C.mget hL gf_X9_16 dX9_readBody_114 rfl ?_
        refine C.iload_n dX9_readBody_117 rfl ?_
        refine C.aload_n dX9_readBody_118 rfl ?_
        refine C.mcall hL (hW2) cw_X9_readWho ml_X9_175 im_X9_readWho sl_X9_readWho dX9_readBody_119 rfl rfl (by omega) (Nat.le_refl _) (Nat.le_refl _) (Nat.le_of_ble_eq_true rfl) rfl (fun r119 sf119 sa119 hR119 => ?_)
        obtain ⟨rfl, ⟨n1, n2, n3⟩, ha⟩ := hR119
        rw [ha]
        clear ha
        refine C.mastk hL (ovs_23 _ _ _) dX9_readBody_122 (by decide) rfl (by decide) rfl (by omega) ?_
        refine C.aload_n dX9_readBody_123 rfl ?_
        refine C.mget hL gf_X9_16 dX9_readBody_124 rfl ?_
        refine C.iload_n dX9_readBody_127 rfl ?_
        refine C.maldk hL dX9_readBody_128 (by decide) rfl (by decide) rfl (by omega) ?_
        refine C.topI (b := whoV (sa 32) e (wend (sa 32) e (bl (sa 32) e q))) (va_up_self (sac 23) _ _) ?_
        refine C.if_ltI (tgt := 136) dX9_readBody_129 (by decide) (by omega) (fun hc129 => ?_) (fun hc129 => ?_)
        · refine C.ic dX9_readBody_136 ?_
          refine C.retI rfl (by first | rfl | (exact (iI_bool (by first | exact Or.inl rfl | exact Or.inr rfl | assumption)).1)) dX9_readBody_137 (Nat.le_refl _) (Nat.le_refl _) ⟨_, _, ?_, rfl, rfl⟩
          first
            | (rw [if_pos (by assumption)] at hr
               subst hr
               exact ⟨rfl, ⟨(hG.tr k1).tr n1, n3⟩, hgb.up (by omega)⟩)
            | (rw [if_neg (by assumption)] at hr
               subst hr
               exact ⟨rfl, ⟨(hG.tr k1).tr n1, n2⟩, hgb.up (by omega), hB2⟩)
        · refine C.ic dX9_readBody_132 ?_
          refine C.goto (tgt := 137) dX9_readBody_133 (by decide) ?_
          refine C.retI rfl (by first | rfl | (exact (iI_bool (by first | exact Or.inl rfl | exact Or.inr rfl | assumption)).1)) dX9_readBody_137 (Nat.le_refl _) (Nat.le_refl _) ⟨_, _, ?_, rfl, rfl⟩
          first
            | (rw [if_pos (by assumption)] at hr
               subst hr
               exact ⟨rfl, ⟨(hG.tr k1).tr n1, n3⟩, hgb.up (by omega)⟩)
            | (rw [if_neg (by assumption)] at hr
               subst hr
               exact ⟨rfl, ⟨(hG.tr k1).tr n1, n2⟩, hgb.up (by omega), hB2⟩)
    have stD : ∀ (sfc : SF) (sac : SA) (q : Nat) (acts : List Int) (m : Int), PD e q sfc sac → Gf sf sfc → GbB sa sac s → BodyAt sac s (acts, 3, m, 1) → (if psP (sa 32) e q zBe then (if psP (sa 32) e (wend (sa 32) e (bl (sa 32) e q)) zDone then (if psP (sa 32) e (wend (sa 32) e (bl (sa 32) e (wend (sa 32) e (bl (sa 32) e q)))) zBy then (if whoV (sa 32) e (wend (sa 32) e (bl (sa 32) e (wend (sa 32) e (bl (sa 32) e (wend (sa 32) e (bl (sa 32) e q)))))) < 0 then .inr (bl (sa 32) e (wend (sa 32) e (bl (sa 32) e (wend (sa 32) e (bl (sa 32) e (wend (sa 32) e (bl (sa 32) e q))))))) else .inl ((acts, whoV (sa 32) e (wend (sa 32) e (bl (sa 32) e (wend (sa 32) e (bl (sa 32) e (wend (sa 32) e (bl (sa 32) e q)))))), m, 1), whoQ (sa 32) e (wend (sa 32) e (bl (sa 32) e (wend (sa 32) e (bl (sa 32) e (wend (sa 32) e (bl (sa 32) e q)))))))) else .inl ((acts, 3, m, 1), bl (sa 32) e (wend (sa 32) e (bl (sa 32) e (wend (sa 32) e (bl (sa 32) e q)))))) else .inr (bl (sa 32) e (wend (sa 32) e (bl (sa 32) e q)))) else .inr (bl (sa 32) e q)) = RES → X 0 0 L (ov sfc sac g) 82 [some (.ref 20), some (.int (iI s))] [] := by
      intro sfc sac q acts m hP hG hgb hB hr
      have hbq := bl_le (tb := sa 32) hP.2.2.1
      have hwe := wend_le (tb := sa 32) hbq
      have hPs := m_passesG (d := d - 1) (by omega) hP tBe
      rw [e32 sac hgb] at hPs
      cases c1 : psP (sa 32) e q zBe with
      | false =>
        rw [c1] at hPs hr
        simp only [Bool.false_eq_true, if_false] at hPs hr
        refine C.aload_n dX9_readBody_82 rfl ?_
        refine C.lds dX9_readBody_83 (j := 27) rfl ?_
        refine C.mcall hL (hPs) cw_X9_passes ml_X9_143 im_X9_passes sl_X9_passes dX9_readBody_85 rfl rfl (by omega) (Nat.le_refl _) (Nat.le_refl _) (Nat.le_of_ble_eq_true rfl) rfl (fun r85 sf85 sa85 hR85 => ?_)
        obtain ⟨rfl, ⟨k1, k2, k3⟩, ha⟩ := hR85
        rw [ha]
        clear ha
        refine C.if_eqI (tgt := 100) dX9_readBody_88 (by decide) (by decide) (fun hc88 => ?_) (fun hc88 => absurd hc88 (fun h => h rfl))
        exact failR _ _ sac _ hr.symm (hG.tr k1) k3 hgb
      | true =>
        rw [c1] at hPs hr
        simp only [if_true] at hPs hr
        refine C.aload_n dX9_readBody_82 rfl ?_
        refine C.lds dX9_readBody_83 (j := 27) rfl ?_
        refine C.mcall hL (hPs) cw_X9_passes ml_X9_143 im_X9_passes sl_X9_passes dX9_readBody_85 rfl rfl (by omega) (Nat.le_refl _) (Nat.le_refl _) (Nat.le_of_ble_eq_true rfl) rfl (fun r85 sf85 sa85 hR85 => ?_)
        obtain ⟨rfl, ⟨k1, k2, k3⟩, ha⟩ := hR85
        rw [ha]
        clear ha
        have hq := hP.go (q := wend (sa 32) e (bl (sa 32) e q)) (sa' := sac) k1 k2 hwe rfl
        have hb3 := bl_le (tb := sa 32) hwe
        have hPs2 := m_passesG (d := d - 1) (by omega) hq tDone
        rw [e32 sac hgb] at hPs2
        refine C.if_eqI (tgt := 100) dX9_readBody_88 (by decide) (by decide) (fun hc88 => absurd hc88 (by decide)) (fun hc88 => ?_)
        refine C.aload_n dX9_readBody_91 rfl ?_
        refine C.lds dX9_readBody_92 (j := 28) rfl ?_
        refine C.mcall hL (hPs2) cw_X9_passes ml_X9_143 im_X9_passes sl_X9_passes dX9_readBody_94 rfl rfl (by omega) (Nat.le_refl _) (Nat.le_refl _) (Nat.le_of_ble_eq_true rfl) rfl (fun r94 sf94 sa94 hR94 => ?_)
        obtain ⟨rfl, ⟨n1, n2, n3⟩, ha⟩ := hR94
        rw [ha]
        clear ha
        cases c2 : psP (sa 32) e (wend (sa 32) e (bl (sa 32) e q)) zDone with
        | false =>
          rw [c2] at n2 hr
          simp only [Bool.false_eq_true, if_false] at n2 hr
          refine C.if_neI (tgt := 102) dX9_readBody_97 (by decide) (by decide) (fun h => absurd rfl h) (fun _ => ?_)
          exact failR _ _ sac _ hr.symm ((hG.tr k1).tr n1) n3 hgb
        | true =>
          rw [c2] at n2 hr
          simp only [if_true] at n2 hr
          refine C.if_neI (tgt := 102) dX9_readBody_97 (by decide) (by decide) (fun _ => ?_) (fun h => absurd h (by decide))
          exact stE _ sac _ acts m (hq.go (sa' := sac) n1 n2 (wend_le hb3) rfl) ((hG.tr k1).tr n1) hgb hB hr
    have hwe := wend_le (tb := sa 32) hb
    have hG3 : GbB sa (va_up (va_up (va_up sa 23 (va_up (sa 23) s (whoV (sa 32) e p))) 23 (va_up (va_up sa 23 (va_up (sa 23) s (whoV (sa 32) e p)) 23) s 3)) 26 (va_up (sa 26) s 1)) s := ((GbB.rf.up (a := 23) (v := whoV (sa 32) e p) (by omega)).up (a := 23) (v := 3) (by omega)).up (a := 26) (v := 1) (by omega)
    generalize hs3 : (va_up (va_up (va_up sa 23 (va_up (sa 23) s (whoV (sa 32) e p))) 23 (va_up (va_up sa 23 (va_up (sa 23) s (whoV (sa 32) e p)) 23) s 3)) 26 (va_up (sa 26) s 1)) = s3 at hG3
    have q23 : s3 23 s = 3 := by rw [← hs3]; exact va_up_self (va_up sa 23 (va_up (sa 23) s (whoV (sa 32) e p)) 23) _ _
    have q26 : s3 26 s = 1 := by rw [← hs3]; exact va_up_self (sa 26) _ _
    have q21 : s3 21 s = 0 := by rw [← hs3]; exact h0
    have q32 : s3 32 = sa 32 := e32 s3 hG3
    refine C.aload_n dX9_readBody_0 rfl ?_
    refine C.mget hL gf_X9_16 dX9_readBody_1 rfl ?_
    refine C.iload_n dX9_readBody_4 rfl ?_
    refine C.aload_n dX9_readBody_5 rfl ?_
    refine C.mcall hL (hW) cw_X9_readWho ml_X9_175 im_X9_readWho sl_X9_readWho dX9_readBody_6 rfl rfl (by omega) (Nat.le_refl _) (Nat.le_refl _) (Nat.le_of_ble_eq_true rfl) rfl (fun r6 sf6 sa6 hR6 => ?_)
    obtain ⟨rfl, ⟨g1, g2, g3⟩, ha⟩ := hR6
    rw [ha]
    clear ha
    have hq := h.go (q := bl (sa 32) e p) (sa' := s3) g1 (by rw [← hwq2]; exact g2) hb q32
    have hPs := m_passesG (d := d - 1) (by omega) hq tAct
    rw [q32, psP_bl, bl_bl] at hPs
    refine C.mastk hL (ovs_23 _ _ _) dX9_readBody_9 (by decide) rfl (by decide) rfl (by omega) ?_
    refine C.aload_n dX9_readBody_10 rfl ?_
    refine C.mget hL gf_X9_16 dX9_readBody_11 rfl ?_
    refine C.iload_n dX9_readBody_14 rfl ?_
    refine C.maldk hL dX9_readBody_15 (by decide) rfl (by decide) rfl (by omega) ?_
    refine C.topI (b := whoV (sa 32) e p) (va_up_self (sa 23) _ _) ?_
    refine C.if_ltI (tgt := 42) dX9_readBody_16 (by decide) (by omega) (fun hc16 => ?_) (fun hc16 => absurd hc16 (by omega))
    refine C.aload_n dX9_readBody_42 rfl ?_
    refine C.mget hL gf_X9_16 dX9_readBody_43 rfl ?_
    refine C.iload_n dX9_readBody_46 rfl ?_
    refine C.ic dX9_readBody_47 ?_
    refine C.mastk hL (ovs_23 _ _ _) dX9_readBody_48 (by decide) rfl (by decide) rfl (by omega) ?_
    refine C.aload_n dX9_readBody_49 rfl ?_
    refine C.mget hL gf_X9_25 dX9_readBody_50 rfl ?_
    refine C.iload_n dX9_readBody_53 rfl ?_
    refine C.ic dX9_readBody_54 ?_
    refine C.mastzk hL (ovs_26 _ _ _) dX9_readBody_55 (by decide) rfl (by decide) rfl (by omega) (by first | exact Or.inl rfl | exact Or.inr rfl | assumption) ?_
    rw [show (va_up (va_up (va_up sa 23 (va_up (sa 23) s (whoV (sa 32) e p))) 23 (va_up (va_up sa 23 (va_up (sa 23) s (whoV (sa 32) e p)) 23) s 3)) 26 (va_up (va_up (va_up sa 23 (va_up (sa 23) s (whoV (sa 32) e p))) 23 (va_up (va_up sa 23 (va_up (sa 23) s (whoV (sa 32) e p)) 23) s 3) 26) s 1)) = s3 from hs3]
    refine C.aload_n dX9_readBody_56 rfl ?_
    refine C.lds dX9_readBody_57 (j := 26) rfl ?_
    refine C.mcall hL (hPs) cw_X9_passes ml_X9_143 im_X9_passes sl_X9_passes dX9_readBody_59 rfl rfl (by omega) (Nat.le_refl _) (Nat.le_refl _) (Nat.le_of_ble_eq_true rfl) rfl (fun r59 sf59 sa59 hR59 => ?_)
    obtain ⟨rfl, ⟨k1, k2, k3⟩, ha⟩ := hR59
    rw [ha]
    clear ha
    cases c1 : psP (sa 32) e p zAct with
    | false =>
      rw [c1] at k2 hRES
      simp only [Bool.false_eq_true, if_false] at k2 hRES
      refine C.if_eqI (tgt := 100) dX9_readBody_62 (by decide) (by decide) (fun _ => ?_) (fun h => absurd rfl h)
      exact failR _ _ s3 _ hRES.symm (g1.tr k1) k3 hG3
    | true =>
      rw [c1] at k2 hRES
      simp only [if_true] at k2 hRES
      have hq2 := hq.go (q := wend (sa 32) e (bl (sa 32) e p)) (sa' := s3) k1 k2 hwe rfl
      have hA := m_readActs (d := d - 1) (s := s) (has := true) (by omega) hs hq2 q21
      rw [q32] at hA
      refine C.if_eqI (tgt := 100) dX9_readBody_62 (by decide) (by decide) (fun h => absurd h (by decide)) (fun _ => ?_)
      refine C.aload_n dX9_readBody_65 rfl ?_
      refine C.iload_n dX9_readBody_66 rfl ?_
      refine C.ic dX9_readBody_67 ?_
      refine C.mcall hL hA cw_X9_readActs ml_X9_181 im_X9_readActs sl_X9_readActs dX9_readBody_68 rfl rfl (by omega) (Nat.le_refl _) (Nat.le_refl _) (Nat.le_of_ble_eq_true rfl) rfl (fun r68 sf68 sa68 hR68 => ?_)
      cases hf : actF (sa 32) e 3 [] (wend (sa 32) e (bl (sa 32) e p)) true with
      | inr b =>
        rw [hf] at hR68 hRES
        simp only [] at hRES
        obtain ⟨rfl, ⟨n1, n2⟩, acc, n3, ha⟩ := hR68
        rw [ha]
        clear ha
        refine C.if_eqI (tgt := 100) dX9_readBody_71 (by decide) (by decide) (fun _ => ?_) (fun h => absurd rfl h)
        exact failR _ _ _ _ hRES.symm ((g1.tr k1).tr n1) n2 (hG3.act n3)
      | inl q =>
        rw [hf] at hR68 hRES
        simp only [] at hRES
        obtain ⟨x1, x2, x3, x4, x5⟩ := actF_ok 3 [] _ true rfl hwe (fun v hv => by cases hv) List.nodup_nil q.1 q.2 hf
        obtain ⟨rfl, ⟨n1, n2⟩, ha⟩ := hR68
        rw [ha]
        clear ha
        have hq3 := hq2.go (q := q.2) (sa' := actS s3 s q.1) n1 n2 x5 (actS_ne (by decide) (by decide))
        have hM := m_readMode (d := d - 1) (s := s) (by omega) hs hq3
        rw [show actS s3 s q.1 32 = sa 32 from (actS_ne (by decide) (by decide)).trans q32] at hM
        have hmq := modQ_le (tb := sa 32) x5
        refine C.if_eqI (tgt := 100) dX9_readBody_71 (by decide) (by decide) (fun h => absurd h (by decide)) (fun _ => ?_)
        refine C.aload_n dX9_readBody_74 rfl ?_
        refine C.iload_n dX9_readBody_75 rfl ?_
        refine C.mcall hL hM cw_X9_readMode ml_X9_178 im_X9_readMode sl_X9_readMode dX9_readBody_76 rfl rfl (by omega) (Nat.le_refl _) (Nat.le_refl _) (Nat.le_of_ble_eq_true rfl) rfl (fun r76 sf76 sa76 hR76 => ?_)
        obtain ⟨rfl, ⟨o1, o2, o3⟩, ha⟩ := hR76
        rw [ha]
        clear ha
        by_cases hm : modV (sa 32) e q.2 < 0
        · rw [if_pos hm, show decide (0 ≤ modV (sa 32) e q.2) = false from by simp; omega]
          rw [if_pos hm] at hRES
          refine C.if_eqI (tgt := 100) dX9_readBody_79 (by decide) (by decide) (fun _ => ?_) (fun h => absurd rfl h)
          exact failR _ _ _ _ hRES.symm (((g1.tr k1).tr n1).tr o1) (o3 hm) (hG3.act x1)
        · rw [if_neg hm, show decide (0 ≤ modV (sa 32) e q.2) = true from by simp; omega]
          rw [if_neg hm] at hRES
          refine C.if_eqI (tgt := 100) dX9_readBody_79 (by decide) (by decide) (fun h => absurd h (by decide)) (fun _ => ?_)
          refine stD _ _ (modQ (sa 32) e q.2) q.1 (modV (sa 32) e q.2) (hq3.go o1 o2 hmq rfl) (((g1.tr k1).tr n1).tr o1) ((hG3.act x1).up (a := 24) (by omega)) ⟨actS_21, fun k hk => actS_22 hk, ?_, va_up_self (actS s3 s q.1 24) _ _, ?_⟩ hRES
          · show actS s3 s q.1 23 s = 3
            rw [actS_ne (by decide) (by decide)]; exact q23
          · show actS s3 s q.1 26 s = 1
            rw [actS_ne (by decide) (by decide)]; exact q26
