/-! a sentence, read by the class -/
section MONO
variable {tb : Nat → Int} {e p : Nat}
theorem whoQ_up : p ≤ whoQ tb e p := by
  have h1 := bl_ge tb e p
  have h2 := wend_ge tb e (bl tb e p)
  unfold whoQ
  split <;> omega
theorem modQ_up : p ≤ modQ tb e p := by
  have h1 := bl_ge tb e p
  have h2 := wend_ge tb e (bl tb e p)
  have h3 := bl_ge tb e (wend tb e (bl tb e p))
  have h4 := wend_ge tb e (bl tb e (wend tb e (bl tb e p)))
  unfold modQ
  repeat' split
  all_goals omega
theorem dend_up (tb : Nat → Int) (e p : Nat) : p ≤ dend tb e p := (sk_ge tb e 48 57 p).1
theorem actF_up : ∀ (n : Nat) (xs : List Int) (p : Nat), (∀ q, actF tb e n xs p false = .inl q → p ≤ q.2) ∧ (∀ b, actF tb e n xs p false = .inr b → p ≤ b) := by
  intro n
  induction n with
  | zero =>
    intro xs p
    refine ⟨fun q h => ?_, fun b h => ?_⟩
    · rw [actF] at h; cases h
    · rw [actF] at h; cases h; exact Nat.le_refl _
  | succ n ih =>
    intro xs p
    rw [actF_step]
    have h1 := bl_ge tb e p
    have h2 := wend_ge tb e (bl tb e p)
    have h3 := bl_ge tb e (wend tb e (bl tb e p))
    have h4 := dend_up tb e (bl tb e (wend tb e (bl tb e p)))
    split
    · split
      · exact ⟨fun q h => by (cases h), fun b h => by (cases h; omega)⟩
      · unfold rstA
        have h5 := bl_ge tb e (dend tb e (bl tb e (wend tb e (bl tb e p))))
        have h6 := wend_ge tb e (bl tb e (dend tb e (bl tb e (wend tb e (bl tb e p)))))
        split
        · split
          · exact ⟨fun q h => by (cases h), fun b h => by (cases h; omega)⟩
          · obtain ⟨i1, i2⟩ := ih (xs ++ [nmV tb e (bl tb e (wend tb e (bl tb e p))) 0 9]) (wend tb e (bl tb e (dend tb e (bl tb e (wend tb e (bl tb e p))))))
            exact ⟨fun q h => by (have := i1 q h; omega), fun b h => by (have := i2 b h; omega)⟩
        · exact ⟨fun q h => by (cases h; show p ≤ bl tb e _; omega), fun b h => by (cases h)⟩
    · exact ⟨fun q h => by (cases h), fun b h => by (cases h; omega)⟩
end MONO
