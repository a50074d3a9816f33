section QUERYB
variable {m m' : ea_M}
theorem eb_slL {A B τ : Type} (t : A) (f : A → Option τ) (g : B → Option τ) : ea_sl (some (.inl t)) f g = f t := rfl
theorem eb_slR {A B τ : Type} (t : B) (f : A → Option τ) (g : B → Option τ) : ea_sl (some (.inr t)) f g = g t := rfl
theorem eb_ne10 : ¬ (1 : Int32) = 0 := by decide
theorem eb_p_matter (p q : Int32) (h : eb_I m) : eb_P eb_I (f_L_matter p q m) (f_X12_matter p q) := by
  obtain ⟨n, hn, e1, e2, e3⟩ := eb_IK h
  obtain ⟨nb, hnb, b1, b2, b3⟩ := eb_IB h
  rcases eb_ix (p := p) (x := nI n) rfl (by omega) with hp | ⟨k, hk, rfl⟩
  · refine eb_Pk1 h (k := 1) (v := 0) ?_ ?_ (by decide)
    · simp only [f_L_matter, f_X11_matter, eb_needCase, e2, hp, if_false, eb_cx1, if_true]
    · simp only [f_X12_matter, eb_bdR, eb_noCase p (show (ea_st m 272 0 0) 273 2 = nI n from e1) (by omega), eb_clR, hp, if_false, eb_throwsIf1]
      rfl
  · have hp := eb_ixT hk (show n < 2 ^ 31 by omega)
    obtain ⟨a1, a2, a3, a4, ⟨f, g, c1, c2, c3, c4, c5⟩, a6, a7⟩ := h.1.1.2.2.2.2.2.1 k (by rw [e3]; exact hk)
    have hc : eb_nc (m 273) ≤ 4 := h.1.1.2.1.2.1.2
    rcases eb_ix (p := q) (x := nI 6) rfl (by omega) with hq | ⟨x, hx, rfl⟩
    · have q0 : ¬ q = 0 := fun e => hq (by rw [e]; decide)
      have q1 : ¬ q = 1 := fun e => hq (by rw [e]; decide)
      have q2 : ¬ q = 2 := fun e => hq (by rw [e]; decide)
      have q3 : ¬ q = 3 := fun e => hq (by rw [e]; decide)
      have q4 : ¬ q = 4 := fun e => hq (by rw [e]; decide)
      have q5 : ¬ q = 5 := fun e => hq (by rw [e]; decide)
      refine eb_Pk1 h (k := 2) (v := 0) ?_ ?_ (by decide)
      · simp only [f_L_matter, f_X11_matter, eb_needCase, e2, hp, and_self, if_true, eb_cx0, q0, q1, q2, q3, q4, q5, if_false, eb_cx4]
        rfl
      · simp only [f_X12_matter, eb_bdR, eb_noCase (nI k) (show (ea_st m 272 0 0) 273 2 = nI n from e1) (by omega), eb_clR, hp, and_self, if_true, eb_throwsIf0, eb_inM q 5 _ (n := 5) rfl (by decide), hq, if_false, f_X12_matter_j33, eb_throwsIf1]
        rfl
    · have hq := eb_ixT hx (show 6 < 2 ^ 31 by omega)
      by_cases h4 : x < 4
      · have g4 : ¬ (4 : Int32) ≤ nI x := nI_ge (b := 4) h4 (by decide)
        refine eb_Pv1 h (v := m 273 (74 + 4 * k + x)) ?_ ?_
        · simp only [f_L_matter, f_X11_matter, eb_needCase, e2, hp, and_self, if_true, eb_cx0]
          obtain rfl | rfl | rfl | rfl : x = 0 ∨ x = 1 ∨ x = 2 ∨ x = 3 := by omega
          · rw [if_pos (show nI 0 = 0 from rfl), eb_gN (by omega) (by omega), eb_bdR, nI_clamp (by omega), show m 10 k = m 273 (74 + 4 * k + 0) from a1]; rfl
          · rw [if_neg (show ¬ nI 1 = 0 by decide), if_pos (show nI 1 = 1 from rfl), eb_gN (by omega) (by omega), eb_bdR, nI_clamp (by omega), show m 11 k = m 273 (74 + 4 * k + 1) by rw [show 74 + 4 * k + 1 = 75 + 4 * k by omega]; exact a2]; rfl
          · rw [if_neg (show ¬ nI 2 = 0 by decide), if_neg (show ¬ nI 2 = 1 by decide), if_pos (show nI 2 = 2 from rfl), eb_gN (by omega) (by omega), eb_bdR, nI_clamp (by omega), show m 12 k = m 273 (74 + 4 * k + 2) by rw [show 74 + 4 * k + 2 = 76 + 4 * k by omega]; exact a3]; rfl
          · rw [if_neg (show ¬ nI 3 = 0 by decide), if_neg (show ¬ nI 3 = 1 by decide), if_neg (show ¬ nI 3 = 2 by decide), if_pos (show nI 3 = 3 from rfl), eb_gN (by omega) (by omega), eb_bdR, nI_clamp (by omega), show m 13 k = m 273 (74 + 4 * k + 3) by rw [show 74 + 4 * k + 3 = 77 + 4 * k by omega]; exact a4]; rfl
        · simp only [f_X12_matter, eb_bdR, eb_noCase (nI k) (show (ea_st (ea_st m 287 0 (m 273 (74 + 4 * k + x))) 272 0 0) 273 2 = nI n from e1) (by omega), eb_clR, hp, and_self, if_true, eb_throwsIf0, eb_inM (nI x) 5 _ (n := 5) rfl (by decide), hq, eb_ne10, if_false, f_X12_matter_j33, g4, eb_ofCase (show 74 + 4 * k + x < 2180 by omega)]
          rfl
      · have g4 : (4 : Int32) ≤ nI x := nI_le (a := 4) (by omega) (by omega)
        have g5 : nI x - 4 = nI (x - 4) := pk_sub (b := 4) (by omega)
        have ef : ∃ f', f' < 4 ∧ m 273 (74 + 4 * k + (x - 4)) = nI f' := by
          obtain rfl | rfl : x = 4 ∨ x = 5 := by omega
          · exact ⟨f, by omega, c4⟩
          · exact ⟨g, by omega, by rw [show 74 + 4 * k + (5 - 4) = 75 + 4 * k by omega]; exact c5⟩
        obtain ⟨f', hf', ef'⟩ := ef
        refine eb_Pv1 h (v := eb_chs (m 273) k (x - 4)) ?_ ?_
        · have key := eb_choicesA h (k := k) (s := x - 4) (by rw [e3]; exact hk) (by omega)
          simp only [f_L_matter, f_X11_matter, eb_needCase, e2, hp, and_self, if_true, eb_cx0]
          obtain rfl | rfl : x = 4 ∨ x = 5 := by omega
          · have key : f_X1_choices 8 (nI k) 0 m = some (eb_chs (m 273) k 0, m) := key
            rw [if_neg (show ¬ nI 4 = 0 by decide), if_neg (show ¬ nI 4 = 1 by decide), if_neg (show ¬ nI 4 = 2 by decide), if_neg (show ¬ nI 4 = 3 by decide), if_pos (show nI 4 = 4 from rfl), key]; rfl
          · have key : f_X1_choices 8 (nI k) 1 m = some (eb_chs (m 273) k 1, m) := key
            rw [if_neg (show ¬ nI 5 = 0 by decide), if_neg (show ¬ nI 5 = 1 by decide), if_neg (show ¬ nI 5 = 2 by decide), if_neg (show ¬ nI 5 = 3 by decide), if_neg (show ¬ nI 5 = 4 by decide), if_pos (show nI 5 = 5 from rfl), key]; rfl
        · simp only [f_X12_matter, eb_bdR, eb_noCase (nI k) (show (ea_st (ea_st m 287 0 (eb_chs (m 273) k (x - 4))) 272 0 0) 273 2 = nI n from e1) (by omega), eb_clR, hp, and_self, if_true, eb_throwsIf0, eb_inM (nI x) 5 _ (n := 5) rfl (by decide), hq, eb_ne10, if_false, f_X12_matter_j33, g4, g5, eb_choicesM (m := ea_st (ea_st m 287 0 (eb_chs (m 273) k (x - 4))) 272 0 0) hnb b1 (show k < 12 by omega) (show x - 4 < 2 by omega) hf' ef']
          rfl
/-! won -/
def eb_wn (w : Nat → Int32) (p a b : Int32) (k : Nat) (s : Int32) : Int32 :=
  if w (74 + 4 * k) = p then (if w (77 + 4 * k) = a then s + 1 else if w (75 + 4 * k) = p then (if w (77 + 4 * k) = b then s + 1 else s) else s)
  else if w (75 + 4 * k) = p then (if w (77 + 4 * k) = b then s + 1 else s) else s
theorem eb_wonA (h : eb_I m) (p a b : Int32) : ea_loop (f_X11_won_s41 p a b) ea_fuel (0, 0, m) = some (eb_F (eb_wn (m 273) p a b) 0 (eb_k (m 273)), m) := by
  obtain ⟨n, hn, e1, e2, e3⟩ := eb_IK h
  rw [e3]
  refine eb_loopF n (fun i => (eb_F (eb_wn (m 273) p a b) 0 i, nI i, m)) _ rfl (fun i hi => ?_) ?_ (by unfold ea_fuel; omega)
  · have g1 : ¬ nI n ≤ nI i := nI_ge hi (by omega)
    obtain ⟨a1, a2, a3, a4, _⟩ := h.1.1.2.2.2.2.2.1 i (by rw [e3]; exact hi)
    have a1 : m 10 i = m 273 (74 + 4 * i) := a1
    have a2 : m 11 i = m 273 (75 + 4 * i) := a2
    have a4 : m 13 i = m 273 (77 + 4 * i) := a4
    simp only [f_X11_won_s41, f_X11_won_j73, f_X11_won_j96, f_X11_won_j99, e2, g1, if_false, eb_gN (show i < 12 by omega) (show 12 < 2147483648 by omega), eb_bdR, nI_clamp (show i < 2 ^ 31 by omega), nI_1, a1, a2, a4]
    show _ = some (Sum.inl (eb_wn (m 273) p a b i (eb_F (eb_wn (m 273) p a b) 0 i), nI (i + 1), m))
    unfold eb_wn
    by_cases h1 : m 273 (74 + 4 * i) = p <;> by_cases h2 : m 273 (77 + 4 * i) = a <;> by_cases h3 : m 273 (75 + 4 * i) = p <;> by_cases h4 : m 273 (77 + 4 * i) = b
    all_goals (first | simp only [if_pos h1] | simp only [if_neg h1] | skip)
    all_goals (first | simp only [if_pos h2] | simp only [if_neg h2] | skip)
    all_goals (first | simp only [if_pos h3] | simp only [if_neg h3] | skip)
    all_goals (first | simp only [if_pos h4] | simp only [if_neg h4] | skip)
  · simp only [f_X11_won_s41, eb_bdR, e2, if_pos (nI_le (Nat.le_refl n) (show n < 2 ^ 31 by omega))]
theorem eb_wonM (h : eb_I m) (p q : Int32) (a b : Int32) (ha : a = if q = 0 then 1 else 2) (hb : b = if q = 0 then 2 else 1) : ea_loop (f_X12_won_s25 p q) ea_fuel (0, 0, m) = some (eb_F (eb_wn (m 273) p a b) 0 (eb_k (m 273)), m) := by
  obtain ⟨n, hn, e1, e2, e3⟩ := eb_IK h
  rw [e3]
  refine eb_loopF n (fun i => (eb_F (eb_wn (m 273) p a b) 0 i, nI i, m)) _ rfl (fun i hi => ?_) ?_ (by unfold ea_fuel; omega)
  · have g1 : ¬ nI n ≤ nI i := nI_ge hi (by omega)
    obtain ⟨a1, a2, a3, a4, ⟨f, g, c1, c2, c3, c4, c5⟩, _⟩ := h.1.1.2.2.2.2.2.1 i (by rw [e3]; exact hi)
    have hc : eb_nc (m 273) ≤ 4 := h.1.1.2.1.2.1.2
    have hne : ¬ (m 273 (74 + 4 * i) = p ∧ m 273 (75 + 4 * i) = p) := fun z => c3 ((nI_eq (by omega) (by omega)).mp (c4.symm.trans (z.1.trans (z.2.symm.trans c5))))
    simp only [f_X12_won_s25, f_X12_won_j66, f_X12_won_j74, f_X12_won_j76, f_X12_won_j99, f_X12_won_j107, f_X12_won_j109, eb_cases, e1, g1, if_false, show (3 : Int32) = nI 3 from rfl, eb_ofCase (show 74 + 4 * i + 3 < 2180 by omega), show f_X12_ofCase (nI i) 0 = f_X12_ofCase (nI i) (nI 0) from rfl, show f_X12_ofCase (nI i) 1 = f_X12_ofCase (nI i) (nI 1) from rfl, eb_ofCase (show 74 + 4 * i + 0 < 2180 by omega), eb_ofCase (show 74 + 4 * i + 1 < 2180 by omega), eb_bdR, eb_clR, nI_1, Int32.add_zero]
    show _ = some (Sum.inl (eb_wn (m 273) p a b i (eb_F (eb_wn (m 273) p a b) 0 i), nI (i + 1), m))
    unfold eb_wn
    rw [show 74 + 4 * i + 3 = 77 + 4 * i by omega, show 74 + 4 * i + 1 = 75 + 4 * i by omega, Nat.add_zero]
    by_cases hq : q = 0
    · rw [if_pos hq] at ha hb
      subst ha hb
      by_cases h1 : m 273 (74 + 4 * i) = p <;> by_cases h2 : m 273 (77 + 4 * i) = 1 <;> by_cases h3 : m 273 (75 + 4 * i) = p <;> by_cases h4 : m 273 (77 + 4 * i) = 2
      all_goals (first | simp only [if_pos h1] | simp only [if_neg h1] | skip)
      all_goals (first | simp only [if_pos h2] | simp only [if_neg h2] | skip)
      all_goals (first | simp only [if_pos h3] | simp only [if_neg h3] | skip)
      all_goals (first | simp only [if_pos h4] | simp only [if_neg h4] | skip)
      all_goals (first | simp only [if_pos hq] | skip)
      all_goals (first | done | exact absurd ⟨h1, h3⟩ hne)
    · rw [if_neg hq] at ha hb
      subst ha hb
      by_cases h1 : m 273 (74 + 4 * i) = p <;> by_cases h2 : m 273 (77 + 4 * i) = 2 <;> by_cases h3 : m 273 (75 + 4 * i) = p <;> by_cases h4 : m 273 (77 + 4 * i) = 1
      all_goals (first | simp only [if_pos h1] | simp only [if_neg h1] | skip)
      all_goals (first | simp only [if_pos h2] | simp only [if_neg h2] | skip)
      all_goals (first | simp only [if_pos h3] | simp only [if_neg h3] | skip)
      all_goals (first | simp only [if_pos h4] | simp only [if_neg h4] | skip)
      all_goals (first | simp only [if_neg hq] | skip)
      all_goals (first | done | exact absurd ⟨h1, h3⟩ hne)
  · simp only [f_X12_won_s25, eb_cases, eb_clR, e1, if_pos (nI_le (Nat.le_refl n) (show n < 2 ^ 31 by omega))]
theorem eb_p_won (p q : Int32) (_ : eb_bo q) (h : eb_I m) : eb_P eb_I (f_L_won p q m) (f_X12_won p q) := by
  obtain ⟨n, hn, e1, e2, e3⟩ := eb_IN h
  rcases eb_ix (p := p) (x := nI n) rfl (by omega) with hp | ⟨c, hc, rfl⟩
  · refine eb_Pk1 h (k := 1) (v := 0) ?_ ?_ (by decide)
    · simp only [f_L_won, f_X11_won, eb_needCounsel, e2, hp, if_false, eb_cx1, if_true]
    · simp only [f_X12_won, eb_bdR, eb_noCounsel p (show (ea_st m 272 0 0) 273 1 = nI n from e1) (by omega), eb_clR, hp, if_false, eb_throwsIf1]
      rfl
  · have hp := eb_ixT hc (show n < 2 ^ 31 by omega)
    refine eb_Pv1 h (v := eb_F (eb_wn (m 273) (nI c) (if q = 0 then 1 else 2) (if q = 0 then 2 else 1)) 0 (eb_k (m 273))) ?_ ?_
    · simp only [f_L_won, f_X11_won, f_X11_won_j22, f_X11_won_j33, eb_needCounsel, e2, hp, and_self, if_true, eb_cx0, eb_wonA h, eb_obR, eb_bdR]
      by_cases hq : q = 0
      · simp only [if_pos hq]; rfl
      · simp only [if_neg hq]; rfl
    · have h' := eb_I_cg (eb_E2 m (eb_F (eb_wn (m 273) (nI c) (if q = 0 then 1 else 2) (if q = 0 then 2 else 1)) 0 (eb_k (m 273)))) h
      simp only [f_X12_won, eb_bdR, eb_noCounsel (nI c) (show (ea_st (ea_st m 287 0 (eb_F (eb_wn (m 273) (nI c) (if q = 0 then 1 else 2) (if q = 0 then 2 else 1)) 0 (eb_k (m 273)))) 272 0 0) 273 1 = nI n from e1) (by omega), eb_clR, hp, and_self, if_true, eb_throwsIf0, eb_wonM h' (nI c) q _ _ rfl rfl, eb_obR]
      rfl
end QUERYB
