section SMALL
theorem eb_in (p a b : Int32) (m : ea_M) : f_X12_in p a b m = some (if p < a ∨ b < p then 0 else 1, m) := by
  unfold f_X12_in
  by_cases h1 : p < a
  · rw [if_pos h1, if_pos (Or.inl h1)]
  · rw [if_neg h1]
    by_cases h2 : b < p
    · rw [if_pos h2, if_pos (Or.inr h2)]
    · rw [if_neg h2, if_neg (by rintro (z | z) <;> contradiction)]
theorem eb_throwsIf0 (k : Int32) (m : ea_M) : f_X12_throwsIf 0 k m = some (0, m) := rfl
theorem eb_throwsIf1 (k : Int32) (m : ea_M) : f_X12_throwsIf 1 k m = some (1, ea_st m 272 0 k) := rfl
theorem eb_needBird (p : Int32) (m : ea_M) : f_X11_needBird p m = some (if 0 ≤ p ∧ p < m 2 8 then 0 else 1, 0, m) := by
  unfold f_X11_needBird ea_bd
  by_cases h1 : p < 0
  · rw [if_pos h1, if_neg (fun z => absurd h1 (Int32.not_lt.mpr z.1))]
  · rw [if_neg h1]
    dsimp only
    by_cases h2 : p < m 2 8
    · rw [if_pos h2, if_pos ⟨Int32.not_lt.mp h1, h2⟩]
    · rw [if_neg h2, if_neg (fun z => h2 z.2)]
theorem eb_needCounsel (p : Int32) (m : ea_M) : f_X11_needCounsel p m = some (if 0 ≤ p ∧ p < m 8 0 then 0 else 1, 0, m) := by
  unfold f_X11_needCounsel ea_bd
  by_cases h1 : p < 0
  · rw [if_pos h1, if_neg (fun z => absurd h1 (Int32.not_lt.mpr z.1))]
  · rw [if_neg h1]
    dsimp only
    by_cases h2 : p < m 8 0
    · rw [if_pos h2, if_pos ⟨Int32.not_lt.mp h1, h2⟩]
    · rw [if_neg h2, if_neg (fun z => h2 z.2)]
end SMALL
