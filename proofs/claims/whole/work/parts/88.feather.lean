section FEATHER
variable {m mm : ea_M} {w : Nat → Int32}
/-- a feather: level, column, flies, landed in, good in -/
abbrev eb_Fl : Type := Int32 × Int32 × Int32 × Int32 × Int32
/-- one breath k (from 0) with gust g -/
noncomputable def eb_dr1 (w : Nat → Int32) (b : Int32) (k : Nat) (g : Int32) (s : eb_Fl) : eb_Fl :=
  if s.2.1 + eb_cr w b s.1 s.2.1 (nI k) + eb_dr w b g < 0 ∨ 16 ≤ s.2.1 + eb_cr w b s.1 s.2.1 (nI k) + eb_dr w b g then (s.1 - eb_sk w b s.1 s.2.1 (nI k), s.2.1 + eb_cr w b s.1 s.2.1 (nI k) + eb_dr w b g, 0, 0, 0)
  else if 0 < s.1 - eb_sk w b s.1 s.2.1 (nI k) then (s.1 - eb_sk w b s.1 s.2.1 (nI k), s.2.1 + eb_cr w b s.1 s.2.1 (nI k) + eb_dr w b g, 1, 0, 0)
  else (s.1 - eb_sk w b s.1 s.2.1 (nI k), s.2.1 + eb_cr w b s.1 s.2.1 (nI k) + eb_dr w b g, 0, nI (k + 1), if w 9 ≤ s.2.1 + eb_cr w b s.1 s.2.1 (nI k) + eb_dr w b g ∧ s.2.1 + eb_cr w b s.1 s.2.1 (nI k) + eb_dr w b g ≤ w 10 then nI (k + 1) else 0)
/-- it flies, above the ground and over the columns -/
def eb_fly (s : eb_Fl) : Prop := ∃ v c, 1 ≤ v ∧ v ≤ 12 ∧ c < 16 ∧ s = (nI v, nI c, 1, 0, 0)
/-- it is done: blown off, or landed -/
def eb_done (s : eb_Fl) : Prop := s.2.2.1 = 0 ∧ ((s.2.2.2.1 = 0 ∧ s.2.2.2.2 = 0 ∧ ¬ (0 ≤ s.2.1 ∧ s.2.1 < nI 16)) ∨ ∃ k, k < 8 ∧ s.2.2.2.1 = nI (k + 1) ∧ (s.2.2.2.2 = nI (k + 1) ∨ s.2.2.2.2 = 0) ∧ 0 ≤ s.2.1 ∧ s.2.1 < nI 16)
theorem eb_skR (w : Nat → Int32) (b lv co br : Int32) : ∃ j, j ≤ 12 ∧ eb_sk w b lv co br = nI j := by
  unfold eb_sk
  obtain ⟨x, ex⟩ : ∃ x, x = w (26 + 4 * b.toNatClampNeg) + eb_sum w (eb_fact w b lv co br) 0 - eb_sum w (eb_fact w b lv co br) 1 := ⟨_, rfl⟩
  rw [← ex]
  have h12 : (12 : Int32) = nI 12 := rfl
  unfold ea_max ea_min
  by_cases q1 : x < 12
  · rw [if_pos q1]
    by_cases q2 : 0 < x
    · rw [if_pos q2]
      obtain ⟨j, hj, e⟩ := nI_of2 (M := 12) (n := 12) (by decide) (Int32.not_lt.mpr (Int32.le_of_lt q2)) (Int32.le_of_lt q1)
      exact ⟨j, hj, e⟩
    · rw [if_neg q2]
      exact ⟨0, by decide, rfl⟩
  · rw [if_neg q1, if_pos (by decide)]
    exact ⟨12, by decide, rfl⟩
theorem eb_subN {v j : Nat} (hv : v ≤ 12) (hj : j ≤ 12) : (0 < nI v - nI j) ↔ j < v := by
  rw [eb_lt_iff, pk_sub_toInt (by omega) (by omega), eb_t0]
  omega
theorem eb_dr1_ok {b : Int32} {k : Nat} (hk : k < 8) {g : Int32} {s : eb_Fl} (h : eb_fly s) : eb_fly (eb_dr1 w b k g s) ∨ eb_done (eb_dr1 w b k g s) := by
  obtain ⟨v, c, h1, h2, h3, rfl⟩ := h
  unfold eb_dr1
  dsimp only
  obtain ⟨j, hj, ej⟩ := eb_skR w b (nI v) (nI c) (nI k)
  obtain ⟨x, ex⟩ : ∃ x, x = nI c + eb_cr w b (nI v) (nI c) (nI k) + eb_dr w b g := ⟨_, rfl⟩
  rw [← ex, ej]
  by_cases q1 : x < 0 ∨ 16 ≤ x
  · rw [if_pos q1]
    refine Or.inr ⟨rfl, Or.inl ⟨rfl, rfl, fun z => ?_⟩⟩
    rcases q1 with y | y
    · exact absurd z.1 (Int32.not_le.mpr y)
    · exact absurd z.2 (Int32.not_lt.mpr y)
  · rw [if_neg q1]
    have hx : ∃ c', c' < 16 ∧ x = nI c' := by
      rcases pk_ix x (n := 16) (by decide) with z | z | z
      · exact absurd (Or.inl z) q1
      · exact absurd (Or.inr z) q1
      · exact z
    by_cases q2 : 0 < nI v - nI j
    · rw [if_pos q2]
      obtain ⟨c', hc', rfl⟩ := hx
      have := (eb_subN h2 hj).mp q2
      exact Or.inl ⟨v - j, c', by omega, by omega, hc', by rw [pk_sub (by omega)]⟩
    · rw [if_neg q2]
      refine Or.inr ⟨rfl, Or.inr ⟨k, hk, rfl, ?_, ?_⟩⟩
      · show (if w 9 ≤ x ∧ x ≤ w 10 then nI (k + 1) else 0) = nI (k + 1) ∨ (if w 9 ≤ x ∧ x ≤ w 10 then nI (k + 1) else 0) = 0
        by_cases q3 : w 9 ≤ x ∧ x ≤ w 10
        · rw [if_pos q3]; exact Or.inl rfl
        · rw [if_neg q3]; exact Or.inr rfl
      · obtain ⟨c', hc', e⟩ := hx
        show 0 ≤ x ∧ x < nI 16
        rw [e]
        exact eb_ixT hc' (by decide)
/-- the class keeps feather s of bird b in row R -/
def eb_fA (m : ea_M) (R b : Nat) (s : eb_Fl) : Prop := m R 0 = nI b ∧ m R 1 = s.1 ∧ m R 2 = s.2.1 ∧ m R 3 = s.2.2.1 ∧ m R 4 = s.2.2.2.1 ∧ m R 5 = s.2.2.2.2
/-- the class's rows that a drift leaves alone -/
def eb_DF (R : Nat) (m m' : ea_M) : Prop := (∀ r, r ≠ 16 → r ≠ 22 → r ≠ 23 → r ≠ 73 → r ≠ R → m' r = m r) ∧ (∀ i, i ≠ 2 → i ≠ 3 → m' 16 i = m 16 i) ∧ ∀ i, i ≠ 4 → i ≠ 5 → m' 73 i = m 73 i
theorem eb_driftA {n b k R : Nat} {g : Int32} {s : eb_Fl} (hA : eb_A m w n) (hn : n ≤ 6) (hb : b < n) (hR : R = 74 ∨ R = 75) (hs : eb_fA m R b s) (hf : eb_fly s) : eb_W (f_X0_drift R (nI k) g m) (fun z => eb_DF R m z.2 ∧ eb_fA z.2 R b (eb_dr1 w (nI b) k g s)) := by
  obtain ⟨v, c, h1, h2, h3, rfl⟩ := hf
  obtain ⟨s0, s1, s2, s3, s4, s5⟩ := hs
  have s1 : m R 1 = nI v := s1
  have s2 : m R 2 = nI c := s2
  have s3 : m R 3 = 1 := s3
  have s4 : m R 4 = 0 := s4
  have s5 : m R 5 = 0 := s5
  unfold f_X0_drift
  rw [s0, eb_bdR, s1, eb_bdR, s2, eb_bdR]
  refine eb_cl (eb_weigh0 (co := nI c) (br := nI k) hA hn hb (show v < 13 by omega)) fun r m4 hz => ?_
  dsimp only at hz
  obtain ⟨hW, z4, z5⟩ := hz
  have kR : m4 R = m R := hW.1 R (by omega) (by omega) (by omega) (by omega)
  have k5 : m4 5 = m 5 := hW.1 5 (by decide) (by decide) (by decide) (by decide)
  have k2 : m4 2 = m 2 := hW.1 2 (by decide) (by decide) (by decide) (by decide)
  obtain ⟨a1, a2, a3, a4, a5, a6, a7, a8⟩ := hA
  obtain ⟨L, eL⟩ : ∃ L, L = nI v - eb_sk w (nI b) (nI v) (nI c) (nI k) := ⟨_, rfl⟩
  obtain ⟨C, eC⟩ : ∃ C, C = nI c + eb_cr w (nI b) (nI v) (nI c) (nI k) + eb_dr w (nI b) g := ⟨_, rfl⟩
  rw [kR, s1, eb_bdR, z4, eb_bdR, eb_bdR, ← eL, eb_stI _ _ _ (by decide), kR, s2, eb_bdR, eb_stA _ _ _ (show 73 ≠ R by omega), z5, eb_bdR, eb_stI _ _ _ (by decide), kR, s0, eb_bdR, eb_gN (by omega) (by decide), eb_bdR, nI_clamp (by omega), eb_stA _ _ _ (show 5 ≠ R by omega), k5, (a7 b hb).2]
  have fin : ∀ x : Int32, x = eb_dr w (nI b) g → eb_W (f_X0_drift_j59 R (nI k) (nI c) (eb_cr w (nI b) (nI v) (nI c) (nI k)) x (ea_st m4 R 1 L)) (fun z => eb_DF R m z.2 ∧ eb_fA z.2 R b (eb_dr1 w (nI b) k g (nI v, nI c, 1, 0, 0))) := fun x hx => by
    unfold f_X0_drift_j59
    rw [hx, ← Int32.add_assoc, ← eC, eb_bdR]
    unfold eb_dr1
    dsimp only
    rw [← eC, ← eL]
    refine eb_bdE fun m18 e18 => ?_
    have r0 : ∀ r, r ≠ R → m18 r = m4 r := fun r hr => by rw [e18, eb_stA _ _ _ hr, eb_stA _ _ _ hr]
    have rR : ∀ i, i ≠ 1 → i ≠ 2 → m18 R i = m R i := fun i q1 q2 => by rw [e18, eb_stI _ _ _ q2, eb_stI _ _ _ q1, kR]
    have rL : m18 R 1 = L := by rw [e18, eb_stI _ _ _ (by decide), eb_st]
    have rC : m18 R 2 = C := by rw [e18, eb_st]
    clear e18
    have fr : ∀ m' : ea_M, (∀ r, r ≠ R → m' r = m18 r) → eb_DF R m m' := fun m' hm => by
      refine ⟨fun r q1 q2 q3 q4 q5 => ?_, fun i q1 q2 => ?_, fun i q1 q2 => ?_⟩
      · rw [hm r q5, r0 r q5, hW.1 r q1 q2 q3 q4]
      · rw [hm 16 (by omega), r0 16 (by omega)]
        exact hW.2.1 i q1 q2
      · rw [hm 73 (by omega), r0 73 (by omega)]
        exact hW.2.2 i q1 q2
    rw [rC, eb_bdR]
    have off : C < 0 ∨ 16 ≤ C → eb_W (f_X0_drift_j80 R m18) (fun z => eb_DF R m z.2 ∧ eb_fA z.2 R b (if C < 0 ∨ 16 ≤ C then (L, C, 0, 0, 0) else if 0 < L then (L, C, 1, 0, 0) else (L, C, 0, nI (k + 1), if w 9 ≤ C ∧ C ≤ w 10 then nI (k + 1) else 0))) := fun q => by
      unfold f_X0_drift_j80
      rw [if_pos q]
      refine eb_bd (eb_some ⟨fr _ fun r hr => eb_stA _ _ _ hr, ?_, ?_, ?_, ?_, ?_, ?_⟩)
      · show ea_st m18 R 3 0 R 0 = _
        rw [eb_stI _ _ _ (by decide), rR 0 (by decide) (by decide)]; exact s0
      · show ea_st m18 R 3 0 R 1 = _
        rw [eb_stI _ _ _ (by decide), rL]
      · show ea_st m18 R 3 0 R 2 = _
        rw [eb_stI _ _ _ (by decide), rC]
      · exact eb_st m18 R 3 0
      · show ea_st m18 R 3 0 R 4 = _
        rw [eb_stI _ _ _ (by decide), rR 4 (by decide) (by decide)]; exact s4
      · show ea_st m18 R 3 0 R 5 = _
        rw [eb_stI _ _ _ (by decide), rR 5 (by decide) (by decide)]; exact s5
    by_cases q1 : C < 0
    · rw [if_pos q1]
      exact off (Or.inl q1)
    · rw [if_neg q1, eb_bdR]
      by_cases q2 : C < 16
      · have nq : ¬ (C < 0 ∨ 16 ≤ C) := fun z => z.elim q1 (fun y => absurd q2 (Int32.not_lt.mpr y))
        rw [if_pos q2, if_neg nq, rL, eb_bdR]
        by_cases q3 : 0 < L
        · rw [if_pos q3, if_pos q3]
          exact eb_some ⟨fr _ fun _ _ => rfl, (rR 0 (by decide) (by decide)).trans s0, rL, rC, (rR 3 (by decide) (by decide)).trans s3, (rR 4 (by decide) (by decide)).trans s4, (rR 5 (by decide) (by decide)).trans s5⟩
        · rw [if_neg q3, if_neg q3, eb_bdR, eb_bdR, eb_stI _ _ _ (by decide), eb_stI _ _ _ (by decide), rC, eb_bdR, eb_isYardA, eb_clR, eb_stA _ _ _ (show 2 ≠ R by omega), eb_stA _ _ _ (show 2 ≠ R by omega), r0 2 (by omega), k2, a3, a4, nI_1]
          have j : ∀ x : Int32, eb_W (f_X0_drift_j129 R x (ea_st (ea_st m18 R 3 0) R 4 (nI (k + 1)))) (fun z => eb_DF R m z.2 ∧ eb_fA z.2 R b (L, C, 0, nI (k + 1), x)) := fun x => by
            unfold f_X0_drift_j129
            refine eb_bd (eb_some ⟨fr _ (fun r hr => by dsimp only; rw [eb_stA _ _ _ hr, eb_stA _ _ _ hr, eb_stA _ _ _ hr]), ?_, ?_, ?_, ?_, ?_, ?_⟩)
            · show ea_st (ea_st (ea_st m18 R 3 0) R 4 (nI (k + 1))) R 5 x R 0 = _
              rw [eb_stI _ _ _ (by decide), eb_stI _ _ _ (by decide), eb_stI _ _ _ (by decide), rR 0 (by decide) (by decide)]; exact s0
            · show ea_st (ea_st (ea_st m18 R 3 0) R 4 (nI (k + 1))) R 5 x R 1 = _
              rw [eb_stI _ _ _ (by decide), eb_stI _ _ _ (by decide), eb_stI _ _ _ (by decide), rL]
            · show ea_st (ea_st (ea_st m18 R 3 0) R 4 (nI (k + 1))) R 5 x R 2 = _
              rw [eb_stI _ _ _ (by decide), eb_stI _ _ _ (by decide), eb_stI _ _ _ (by decide), rC]
            · show ea_st (ea_st (ea_st m18 R 3 0) R 4 (nI (k + 1))) R 5 x R 3 = _
              rw [eb_stI _ _ _ (by decide), eb_stI _ _ _ (by decide), eb_st]
            · show ea_st (ea_st (ea_st m18 R 3 0) R 4 (nI (k + 1))) R 5 x R 4 = _
              rw [eb_stI _ _ _ (by decide), eb_st]
            · exact eb_st (ea_st (ea_st m18 R 3 0) R 4 (nI (k + 1))) R 5 x
          by_cases q4 : w 9 ≤ C ∧ C ≤ w 10
          · rw [if_pos q4, if_pos q4, if_neg eb_ne10]
            exact j _
          · rw [if_neg q4, if_neg q4, if_pos rfl]
            exact j _
      · rw [if_neg q2]
        exact off (Or.inr (Int32.not_lt.mp q2))
  have ed : eb_dr w (nI b) g = if 0 < w (27 + 4 * b) then g else 0 := by
    unfold eb_dr
    rw [nI_clamp (by omega)]
  refine eb_ite (fun q => fin 0 ?_) fun q => fin g ?_
  · rw [ed, if_neg (Int32.not_lt.mpr q)]
  · rw [ed, if_pos (Int32.not_le.mp q)]
theorem eb_A_DF {n R : Nat} (hR : R = 74 ∨ R = 75) (h : eb_A m w n) (hf : eb_DF R m mm) : eb_A mm w n := by
  obtain ⟨h1, h2, h3, h4, h5, h6, h7, h8⟩ := h
  have k : ∀ r, r < 22 → r ≠ 16 → mm r = m r := fun r q1 q2 => hf.1 r q2 (by omega) (by omega) (by omega) (by omega)
  unfold eb_A
  rw [k 2 (by decide) (by decide), k 3 (by decide) (by decide), k 4 (by decide) (by decide), k 5 (by decide) (by decide)]
  exact ⟨h1, h2, h3, h4, h5, h6, h7, eb_LR_cg (l := eb_ct m 16) (l' := eb_ct mm 16) (hf.2.1 0 (by decide) (by decide)) (hf.2.1 1 (by decide) (by decide)) (fun i j _ _ _ => congrFun (k (16 + i) (by omega) (by omega)) j) (fun j _ _ => congrFun (k 21 (by decide) (by decide)) j) rfl (fun _ _ _ => rfl) h8⟩
end FEATHER
