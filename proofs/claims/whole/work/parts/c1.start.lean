section START
/-! the start: both sides agree -/
theorem ez_I : eb_I ez_m0 := by
  have hb : eb_b (ez_m0 273) = 0 := by decide +kernel
  have hk : eb_k (ez_m0 273) = 0 := by decide +kernel
  have hz : eb_sz (ez_m0 273) = 0 := by decide +kernel
  have h5 : ∀ n : Nat, n < 4 → ∀ b : Nat, b < 6 → ez_m0 (2 + 7) (6 * n + b) = 0 ∧ ez_m0 273 (50 + 6 * n + b) = 0 := by decide +kernel
  have ht : ∀ j : Nat, j < 400 → ez_m0 1 j = 0 ∧ ez_m0 278 j = 0 := by decide +kernel
  refine ⟨⟨⟨?_, ?_, ?_, ?_, ?_, ?_, ?_⟩, ?_, ?_, ?_, ?_, ?_⟩, Or.inl (by decide +kernel)⟩
  · unfold eb_C1 eb_ct
    decide +kernel
  · exact ⟨⟨by decide +kernel, by decide +kernel⟩, ⟨by decide +kernel, by decide +kernel⟩, ⟨by decide +kernel, by decide +kernel⟩, ⟨0, by decide, by decide +kernel⟩, ⟨0, by decide, by decide +kernel⟩, ⟨12, by decide, by decide +kernel⟩, ⟨7, by decide, by decide +kernel⟩, ⟨8, by decide, by decide, by decide +kernel⟩, ⟨5, 9, by decide, by decide, by decide +kernel, by decide +kernel⟩, by decide +kernel, by decide +kernel⟩
  · unfold eb_C3 eb_ct
    decide +kernel
  · intro b h
    rw [hb] at h
    exact absurd h (Nat.not_lt_zero b)
  · intro n b hn h
    obtain ⟨e1, e2⟩ := h5 n hn b h
    exact ⟨e1.trans e2.symm, ⟨0, Nat.zero_le _, e2⟩, fun _ => e2⟩
  · intro b h
    rw [hk] at h
    exact absurd h (Nat.not_lt_zero b)
  · refine ⟨0, by decide, by decide +kernel, fun g x h => ?_⟩
    rw [hz] at h
    exact absurd h (Nat.not_lt_zero g)
  · exact Or.inl ⟨by decide +kernel, by decide +kernel, 0, by decide, by decide +kernel⟩
  · exact ⟨0, 0, by decide, by decide, by decide +kernel, by decide +kernel, by decide +kernel, fun j hj => absurd hj (Nat.not_lt_zero j)⟩
  · exact ⟨by decide +kernel, Or.inl (by decide +kernel)⟩
  · refine ⟨0, by decide, by decide +kernel, by decide +kernel, fun j hj => ?_⟩
    rw [(ht j hj).1, (ht j hj).2]
    unfold eb_tb
    decide +kernel
  · decide +kernel
end START
