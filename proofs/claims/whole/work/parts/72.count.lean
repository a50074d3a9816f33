section COUNT
variable {m : ea_M}
def eb_opn (w : Nat → Int32) (k : Nat) (a : Int32) : Int32 := if w (77 + 4 * k) = 0 then a ||| (1 <<< (nI k &&& 31)) else a
theorem eb_openA (h : eb_I m) : f_X1_openCases 8 m = some (eb_F (eb_opn (m 273)) 0 (eb_k (m 273)), m) := by
  obtain ⟨n, hn, e1, e2, e3⟩ := eb_IK h
  rw [e3]
  unfold f_X1_openCases
  refine eb_loopB n (fun i => (eb_F (eb_opn (m 273)) 0 i, nI i, m)) (eb_F (eb_opn (m 273)) 0 n, m) rfl (fun i hi => ?_) ?_ (by unfold ea_fuel; omega) rfl
  · have g1 : ¬ nI n ≤ nI i := nI_ge hi (by omega)
    obtain ⟨a1, a2, a3, a4, _⟩ := h.1.1.2.2.2.2.2.1 i (by rw [e3]; exact hi)
    have a4 : m (8 + 5) i = m 273 (77 + 4 * i) := a4
    simp only [f_X1_openCases_s4, f_X1_openCases_j27, e2, g1, if_false, eb_gN (show i < 12 by omega) (show 12 < 2147483648 by omega), eb_bdR, nI_clamp (show i < 2 ^ 31 by omega), nI_1, a4]
    show _ = some (Sum.inl (eb_opn (m 273) i (eb_F (eb_opn (m 273)) 0 i), nI (i + 1), m))
    unfold eb_opn
    by_cases h1 : m 273 (77 + 4 * i) = 0
    · rw [if_pos h1, if_pos h1]
    · rw [if_neg h1, if_neg h1]
  · simp only [f_X1_openCases_s4, eb_bdR, e2, if_pos (nI_le (Nat.le_refl n) (show n < 2 ^ 31 by omega))]
theorem eb_openM (h : eb_I m) : f_X12_openOnes m = some (eb_F (eb_opn (m 273)) 0 (eb_k (m 273)), m) := by
  obtain ⟨n, hn, e1, e2, e3⟩ := eb_IK h
  rw [e3]
  unfold f_X12_openOnes
  refine eb_loopB n (fun i => (eb_F (eb_opn (m 273)) 0 i, nI i, m)) (eb_F (eb_opn (m 273)) 0 n, m) rfl (fun i hi => ?_) ?_ (by unfold ea_fuel; omega) rfl
  · have g1 : ¬ nI n ≤ nI i := nI_ge hi (by omega)
    simp only [f_X12_openOnes_s4, f_X12_openOnes_j28, eb_cases, eb_clR, e1, g1, if_false, eb_isOpen (show i < 12 by omega), eb_bdR, nI_1, Int32.or_zero]
    show _ = some (Sum.inl (eb_opn (m 273) i (eb_F (eb_opn (m 273)) 0 i), nI (i + 1), m))
    unfold eb_opn
    by_cases h1 : m 273 (77 + 4 * i) = 0
    · simp only [if_pos h1, eb_ne10, if_false]
    · simp only [if_neg h1, if_true]
  · simp only [f_X12_openOnes_s4, eb_cases, eb_clR, e1, if_pos (nI_le (Nat.le_refl n) (show n < 2 ^ 31 by omega))]
/-- the first n winds are calm -/
def eb_cl1 (w : Nat → Int32) : Nat → Int32
  | 0 => 1
  | n + 1 => if eb_cl1 w n = 0 then 0 else if w (13 + n) = 0 then 1 else 0
theorem eb_cl01 (w : Nat → Int32) : ∀ n, eb_cl1 w n = 0 ∨ eb_cl1 w n = 1
  | 0 => Or.inr rfl
  | n + 1 => by
    show (if eb_cl1 w n = 0 then (0 : Int32) else if w (13 + n) = 0 then 1 else 0) = 0 ∨ (if eb_cl1 w n = 0 then (0 : Int32) else if w (13 + n) = 0 then 1 else 0) = 1
    by_cases h1 : eb_cl1 w n = 0
    · rw [if_pos h1]; exact Or.inl rfl
    · rw [if_neg h1]
      by_cases h2 : w (13 + n) = 0
      · rw [if_pos h2]; exact Or.inr rfl
      · rw [if_neg h2]; exact Or.inl rfl
theorem eb_cl0 (w : Nat → Int32) {n : Nat} (h : eb_cl1 w n = 0) : ∀ d, eb_cl1 w (n + d) = 0
  | 0 => h
  | d + 1 => if_pos (eb_cl0 w h d)
theorem eb_calmA (h : eb_I m) : f_X2_isCalm 2 m = some (eb_cl1 (m 273) 13, m) := by
  have key : eb_W (ea_loop (f_X2_isCalm_s2 2) ea_fuel (0, m)) (fun r => (r = Sum.inl (0, m) ∧ eb_cl1 (m 273) 13 = 0) ∨ (r = Sum.inr m ∧ eb_cl1 (m 273) 13 = 1)) := by
    refine eb_for 13 (fun i s => s = (nI i, m) ∧ eb_cl1 (m 273) i = 1) ?_ ?_ (by decide) ⟨rfl, rfl⟩
    · rintro i s hi ⟨rfl, hc⟩
      unfold f_X2_isCalm_s2
      have e : m (2 + 1) i = m 273 (13 + i) := h.1.1.2.2.1 i hi
      refine eb_else (nI_ge (b := 13) hi (by decide)) (eb_g i hi (eb_bdV (w := m 273 (13 + i)) (by show m (2 + 1) (Int32.toNatClampNeg (nI i)) = _; rw [nI_clamp (by omega), e]) (eb_ite (fun z => eb_some ?_) fun z => eb_some ?_)))
      · refine ⟨by rw [← nI_1], ?_⟩
        show (if eb_cl1 (m 273) i = 0 then (0 : Int32) else if m 273 (13 + i) = 0 then 1 else 0) = 1
        rw [if_neg (by rw [hc]; decide), if_pos z]
      · refine Or.inl ⟨rfl, ?_⟩
        have z2 : eb_cl1 (m 273) (i + 1) = 0 := by
          show (if eb_cl1 (m 273) i = 0 then (0 : Int32) else if m 273 (13 + i) = 0 then 1 else 0) = 0
          rw [if_neg (by rw [hc]; decide), if_neg z]
        have := eb_cl0 (m 273) z2 (12 - i)
        rw [show i + 1 + (12 - i) = 13 by omega] at this
        exact this
    · rintro s ⟨rfl, hc⟩
      unfold f_X2_isCalm_s2
      exact eb_if (show (13 : Int32) ≤ nI 13 by decide) (eb_some (Or.inr ⟨rfl, hc⟩))
  obtain ⟨r, e, hr⟩ := key
  unfold f_X2_isCalm
  rw [e]
  rcases hr with ⟨rfl, hc⟩ | ⟨rfl, hc⟩
  · rw [hc]; rfl
  · rw [hc]; rfl
theorem eb_calmM (m : ea_M) : f_X12_isCalm m = some (eb_cl1 (m 273) 13, m) := by
  unfold f_X12_isCalm
  refine eb_loopB 13 (fun i => (eb_cl1 (m 273) i, nI i, m)) (eb_cl1 (m 273) 13, m) rfl (fun i hi => ?_) ?_ (by decide) ?_
  · have g1 : ¬ (13 : Int32) ≤ nI i := nI_ge (b := 13) hi (by decide)
    have e : (13 : Int32) + nI i = nI (13 + i) := nI_add 13 i
    simp only [f_X12_isCalm_s4, f_X12_isCalm_j30, f_X12_isCalm_j31, g1, if_false, e, eb_gN (show 13 + i < 2180 by omega) (show 2180 < 2147483648 by omega), eb_bdR, nI_clamp (show 13 + i < 2 ^ 31 by omega), nI_1]
    show _ = some (Sum.inl ((if eb_cl1 (m 273) i = 0 then (0 : Int32) else if m 273 (13 + i) = 0 then 1 else 0), nI (i + 1), m))
    by_cases h1 : eb_cl1 (m 273) i = 0
    · simp only [if_pos h1]
    · simp only [if_neg h1]
      by_cases h2 : m 273 (13 + i) = 0
      · simp only [if_pos h2]
      · simp only [if_neg h2]
  · unfold f_X12_isCalm_s4
    rw [if_pos (show (13 : Int32) ≤ nI 13 by decide)]
  · rcases eb_cl01 (m 273) 13 with e | e
    · dsimp only
      rw [e]; rfl
    · dsimp only
      rw [e]; rfl
theorem eb_E0 (m : ea_M) : eb_E m (ea_st m 272 0 0) := eb_E_st (eb_E_refl m) (by unfold eb_Sc; omega) _
theorem eb_p_count (p : Int32) (h : eb_I m) : eb_P2 eb_I (f_X11_count p m) (f_X12_count p) := by
  have h' := eb_I_cg (eb_E0 m) h
  obtain ⟨⟨a1, a2, a3, a4, a5, a6, a7, a8, a9, a10, a11, a12⟩, _⟩ := h.1.1
  obtain ⟨q, x, hq, hx, e13, e7, e14, hpast⟩ := h.1.2.2.1
  rcases eb_ix (p := p) (x := nI 15) rfl (by omega) with hp | ⟨x, hx, rfl⟩
  · have q0 : ∀ k, k < 15 → ¬ p = nI k := fun k hk e => hp (by rw [e]; exact eb_ixT hk (by decide))
    have q5 : ¬ (5 ≤ p ∧ p ≤ 10) := fun z => hp ⟨Int32.le_trans (by decide) z.1, Int32.lt_of_le_of_lt z.2 (by decide)⟩
    refine eb_P2q h (v := -1) (m1 := m) (m2 := ea_st m 272 0 0) ?_ ?_ (eb_E0 m)
    · unfold f_X11_count
      rw [if_neg (show ¬ p = 0 from q0 0 (by decide)), if_neg (show ¬ p = 1 from q0 1 (by decide)), if_neg (show ¬ p = 2 from q0 2 (by decide)), if_neg (show ¬ p = 3 from q0 3 (by decide)), if_neg (show ¬ p = 4 from q0 4 (by decide)), if_neg (show ¬ p = 5 from q0 5 (by decide)), if_neg (show ¬ p = 6 from q0 6 (by decide)), if_neg (show ¬ p = 7 from q0 7 (by decide)), if_neg (show ¬ p = 8 from q0 8 (by decide)), if_neg (show ¬ p = 9 from q0 9 (by decide)), if_neg (show ¬ p = 10 from q0 10 (by decide)), if_neg (show ¬ p = 11 from q0 11 (by decide)), if_neg (show ¬ p = 12 from q0 12 (by decide)), if_neg (show ¬ p = 13 from q0 13 (by decide)), if_neg (show ¬ p = 14 from q0 14 (by decide))]
    · unfold f_X12_count
      rw [eb_bdR, if_neg (show ¬ p = 0 from q0 0 (by decide)), if_neg (show ¬ p = 1 from q0 1 (by decide)), if_neg (show ¬ p = 2 from q0 2 (by decide)), if_neg (show ¬ p = 3 from q0 3 (by decide)), if_neg (show ¬ p = 4 from q0 4 (by decide)), if_neg (show ¬ p = 5 from q0 5 (by decide)), if_neg (show ¬ p = 6 from q0 6 (by decide)), if_neg (show ¬ p = 7 from q0 7 (by decide)), if_neg (show ¬ p = 8 from q0 8 (by decide)), if_neg (show ¬ p = 9 from q0 9 (by decide)), if_neg (show ¬ p = 10 from q0 10 (by decide)), if_neg (show ¬ p = 11 from q0 11 (by decide)), if_neg (show ¬ p = 12 from q0 12 (by decide)), if_neg (show ¬ p = 13 from q0 13 (by decide)), if_neg (show ¬ p = 14 from q0 14 (by decide))]
      unfold f_X12_count_j156
      rw [eb_inW, if_neg q5, eb_clR, if_pos rfl]
  · obtain rfl | rfl | rfl | rfl | rfl | rfl | rfl | rfl | rfl | rfl | rfl | rfl | rfl | rfl | rfl : x = 0 ∨ x = 1 ∨ x = 2 ∨ x = 3 ∨ x = 4 ∨ x = 5 ∨ x = 6 ∨ x = 7 ∨ x = 8 ∨ x = 9 ∨ x = 10 ∨ x = 11 ∨ x = 12 ∨ x = 13 ∨ x = 14 := by omega
    · exact eb_P2q h (v := m 273 0) (m1 := m) (m2 := ea_st m 272 0 0) (by rw [← a9]; rfl) rfl (eb_E0 m)
    · exact eb_P2q h (v := m 273 1) (m1 := m) (m2 := ea_st m 272 0 0) (by rw [← a10]; rfl) rfl (eb_E0 m)
    · exact eb_P2q h (v := m 273 2) (m1 := m) (m2 := ea_st m 272 0 0) (by rw [← a11]; rfl) rfl (eb_E0 m)
    · exact eb_P2q h (v := m 273 3) (m1 := m) (m2 := ea_st m 272 0 0) (by rw [← a8]; rfl) rfl (eb_E0 m)
    · rcases h.1.2.1 with ⟨z1, z2, _⟩ | ⟨z1, n, len, _, _, z2, z3, _⟩
      · refine eb_P2q h (v := -1) (m1 := m) (m2 := ea_st m 272 0 0) (by rw [← z2]; rfl) ?_ (eb_E0 m)
        show (if (ea_st m 272 0 0) 273 4 = 1 then _ else _) = _
        rw [if_neg (by show ¬ m 273 4 = 1; rw [z1]; decide)]
      · refine eb_P2q h (v := nI n) (m1 := m) (m2 := ea_st m 272 0 0) (by rw [← z2]; rfl) ?_ (eb_E0 m)
        show (if (ea_st m 272 0 0) 273 4 = 1 then some ((ea_st m 272 0 0) 273 482, ea_st m 272 0 0) else _) = _
        rw [if_pos (show (ea_st m 272 0 0) 273 4 = 1 from z1), show (ea_st m 272 0 0) 273 482 = nI n from z3]
    · exact eb_P2q h (v := m 273 5) (m1 := m) (m2 := ea_st m 272 0 0) (by rw [← a6]; rfl) rfl (eb_E0 m)
    · exact eb_P2q h (v := m 273 6) (m1 := m) (m2 := ea_st m 272 0 0) (by rw [← a5]; rfl) rfl (eb_E0 m)
    · exact eb_P2q h (v := m 273 7) (m1 := m) (m2 := ea_st m 272 0 0) (by rw [← a1]; rfl) rfl (eb_E0 m)
    · exact eb_P2q h (v := m 273 8) (m1 := m) (m2 := ea_st m 272 0 0) (by rw [← a2]; rfl) rfl (eb_E0 m)
    · exact eb_P2q h (v := m 273 9) (m1 := m) (m2 := ea_st m 272 0 0) (by rw [← a3]; rfl) rfl (eb_E0 m)
    · exact eb_P2q h (v := m 273 10) (m1 := m) (m2 := ea_st m 272 0 0) (by rw [← a4]; rfl) rfl (eb_E0 m)
    · refine eb_P2q h (v := eb_F (eb_opn (m 273)) 0 (eb_k (m 273))) (m1 := m) (m2 := ea_st m 272 0 0) ?_ ?_ (eb_E0 m)
      · show ea_cl (f_X1_openCases 8 m) (fun r13 m12 => some (r13, m12)) = _
        rw [eb_openA h]; rfl
      · show ea_cl (f_X12_openOnes (ea_st m 272 0 0)) (fun r16 m15 => some (r16, m15)) = _
        rw [eb_openM h']; rfl
    · refine eb_P2q h (v := eb_cl1 (m 273) 13) (m1 := m) (m2 := ea_st m 272 0 0) ?_ ?_ (eb_E0 m)
      · show ea_cl (f_X2_isCalm 2 m) (fun r15 m14 => if r15 = 0 then some (0, m14) else some (1, m14)) = _
        rw [eb_calmA h, eb_clR]
        rcases eb_cl01 (m 273) 13 with e | e
        · rw [e]; rfl
        · rw [e]; rfl
      · show ea_cl (f_X12_isCalm (ea_st m 272 0 0)) (fun r18 m17 => if r18 = 0 then some (0, m17) else some (1, m17)) = _
        rw [eb_calmM, eb_clR, show (ea_st m 272 0 0) 273 = m 273 from rfl]
        rcases eb_cl01 (m 273) 13 with e | e
        · rw [e]; rfl
        · rw [e]; rfl
    · exact eb_P2q h (v := m 273 11) (m1 := m) (m2 := ea_st m 272 0 0) (by rw [← a12]; rfl) rfl (eb_E0 m)
    · refine eb_P2q h (v := nI q) (m1 := m) (m2 := ea_st m 272 0 0) (by rw [← e13]; rfl) ?_ (eb_E0 m)
      show some ((ea_st m 272 0 0) 272 7, ea_st m 272 0 0) = _
      rw [eb_stI _ _ _ (by decide), e7]
end COUNT
