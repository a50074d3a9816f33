section BREATH
variable {m mm : ea_M} {w : Nat → Int32}
/-- the reference keeps feather s of bird b in slot j -/
def eb_fM (m : ea_M) (j b : Nat) (s : eb_Fl) : Prop := m 285 j = nI b ∧ m 284 (4 * j) = s.1 ∧ m 284 (4 * j + 1) = s.2.1 ∧ m 284 (4 * j + 2) = s.2.2.1 ∧ m 284 (4 * j + 3) = s.2.2.2.2
/-- the reference's rows that a breath of slot j leaves alone -/
def eb_MF (j : Nat) (m m' : ea_M) : Prop := (∀ r, r ≠ 272 → r ≠ 280 → r ≠ 284 → m' r = m r) ∧ (∀ i, i < 18 ∨ 21 < i → m' 272 i = m 272 i) ∧ ∀ i, ¬ (4 * j ≤ i ∧ i < 4 * j + 4) → m' 284 i = m 284 i
theorem eb_ixs (j x : Nat) (y : Int32) (hy : y = nI x) : (4 : Int32) * nI j + y = nI (4 * j + x) := by
  rw [hy]
  show nI 4 * nI j + nI x = _
  rw [pk_mul, nI_add]
theorem eb_breathM {l : Nat → Nat → Int32} {j b k : Nat} {g : Int32} {s : eb_Fl} (hj : j < 2) (hb : b < 6) (h273 : m 273 = w) (hL : eb_LR l w) (hs : eb_fM m j b s) (hf : eb_fly s) : eb_W (f_X12_breathes (nI j) g (nI k) m) (fun z => eb_MF j m z.2 ∧ eb_fM z.2 j b (eb_dr1 w (nI b) k g s)) := by
  obtain ⟨v, c, h1, h2, h3, rfl⟩ := hf
  obtain ⟨s0, s1, s2, s3, s5⟩ := hs
  have s1 : m 284 (4 * j) = nI v := s1
  have s2 : m 284 (4 * j + 1) = nI c := s2
  have s3 : m 284 (4 * j + 2) = 1 := s3
  have s5 : m 284 (4 * j + 3) = 0 := s5
  have a0 : (4 : Int32) * nI j = nI (4 * j) := pk_mul 4 j
  have a1 : (4 : Int32) * nI j + 1 = nI (4 * j + 1) := eb_ixs j 1 1 rfl
  have a2 : (4 : Int32) * nI j + 2 = nI (4 * j + 2) := eb_ixs j 2 2 rfl
  have a3 : (4 : Int32) * nI j + 3 = nI (4 * j + 3) := eb_ixs j 3 3 rfl
  unfold f_X12_breathes
  rw [eb_gN hj (by decide), eb_bdR, nI_clamp (by omega), s0, a1, a0, eb_gN (by omega) (by decide), eb_bdR, nI_clamp (by omega), s1, eb_bdR, eb_gN (by omega) (by decide), eb_bdR, nI_clamp (by omega), s2, eb_looksE, eb_clR]
  have hB := eb_looksB m b (nI v) (nI c) (nI k)
  rw [h273] at hB
  obtain ⟨m5, e5⟩ : ∃ m5, m5 = ea_st (ea_st (ea_st (ea_st m 272 18 (nI b)) 272 19 (nI v)) 272 20 (nI c)) 272 21 (nI k) := ⟨_, rfl⟩
  rw [← e5] at hB ⊢
  have r5 : ∀ r, r ≠ 272 → m5 r = m r := fun r hr => by rw [e5, eb_stA _ _ _ hr, eb_stA _ _ _ hr, eb_stA _ _ _ hr, eb_stA _ _ _ hr]
  have r5i : ∀ i, i < 18 ∨ 21 < i → m5 272 i = m 272 i := fun i hi => by rw [e5, eb_stI _ _ _ (by omega), eb_stI _ _ _ (by omega), eb_stI _ _ _ (by omega), eb_stI _ _ _ (by omega)]
  clear e5
  rw [hB.2.2.1, eb_bdR]
  refine eb_cl (eb_sinksM hB hb hL) fun r1 m8 z8 => ?_
  dsimp only at z8
  obtain ⟨z81, z82⟩ := z8
  subst z81
  have hB8 := eb_B_280 hB z82
  rw [eb_bdR, hB8.2.2.2.1, eb_bdR]
  refine eb_cl (eb_carriesM hB8 hb (by omega) hL) fun r2 m12 z12 => ?_
  dsimp only at z12
  obtain ⟨z121, z122⟩ := z12
  subst z121
  have hB12 := eb_B_280 hB8 z122
  have ed : eb_dr w (nI b) g = if 0 < w (27 + 4 * b) then g else 0 := by
    unfold eb_dr
    rw [nI_clamp (by omega)]
  have hd : f_X12_driftOf (nI b) g m12 = some (eb_dr w (nI b) g, m12) := by
    unfold f_X12_driftOf
    rw [show (1 : Int32) = nI 1 from rfl, eb_ofBird (by omega), eb_clR, hB12.1, show 26 + 4 * b + 1 = 27 + 4 * b by omega, ed]
    by_cases q : w (27 + 4 * b) ≤ 0
    · rw [if_pos q, if_neg (Int32.not_lt.mpr q)]
    · rw [if_neg q, if_pos (Int32.not_le.mp q)]
  rw [hB12.2.1, eb_bdR, hd, eb_clR]
  unfold eb_dr1
  dsimp only
  obtain ⟨L, eL⟩ : ∃ L, L = nI v - eb_sk w (nI b) (nI v) (nI c) (nI k) := ⟨_, rfl⟩
  obtain ⟨C, eC⟩ : ∃ C, C = nI c + eb_cr w (nI b) (nI v) (nI c) (nI k) + eb_dr w (nI b) g := ⟨_, rfl⟩
  rw [← eL, ← eC, eb_bdR, eb_gN (by omega) (by decide), eb_bdR, eb_bdR, eb_gN (by omega) (by decide), nI_clamp (by omega)]
  have k12 : ∀ r, r ≠ 272 → r ≠ 280 → m12 r = m r := fun r q1 q2 => by rw [z122 r q2, z82 r q2, r5 r q1]
  have k12i : ∀ i, i < 18 ∨ 21 < i → m12 272 i = m 272 i := fun i hi => by rw [z122 272 (by decide), z82 272 (by decide)]; exact r5i i hi
  refine eb_bdE fun m20 e20 => ?_
  have r20 : ∀ r, r ≠ 284 → m20 r = m12 r := fun r hr => by rw [e20, eb_stA _ _ _ hr, eb_stA _ _ _ hr]
  have i20 : ∀ i, i ≠ 4 * j → i ≠ 4 * j + 1 → m20 284 i = m 284 i := fun i q1 q2 => by rw [e20, eb_stI _ _ _ q2, eb_stI _ _ _ q1, k12 284 (by decide) (by decide)]
  have L20 : m20 284 (4 * j) = L := by rw [e20, eb_stI _ _ _ (by omega), eb_st]
  have C20 : m20 284 (4 * j + 1) = C := by rw [e20, eb_st]
  clear e20
  have fr : ∀ m' : ea_M, (∀ r, r ≠ 284 → m' r = m20 r) → (∀ i, ¬ (4 * j ≤ i ∧ i < 4 * j + 4) → m' 284 i = m20 284 i) → eb_MF j m m' := fun m' hm hi => by
    refine ⟨fun r q1 q2 q3 => ?_, fun i hi2 => ?_, fun i q => ?_⟩
    · rw [hm r q3, r20 r q3, k12 r q1 q2]
    · rw [hm 272 (by decide), r20 272 (by decide)]
      exact k12i i hi2
    · rw [hi i q, i20 i (by omega) (by omega)]
  have f285 : ∀ m' : ea_M, (∀ r, r ≠ 284 → m' r = m20 r) → m' 285 j = nI b := fun m' hm => by rw [hm 285 (by decide), r20 285 (by decide), k12 285 (by decide) (by decide), s0]
  rw [eb_noColumn, eb_clR]
  have j97 : ∀ (x : Int32), x = (if (0 ≤ C ∧ C < nI 16) ∧ w 9 ≤ C ∧ C ≤ w 10 then nI (k + 1) else 0) → eb_W (f_X12_breathes_j97 (nI j) (nI k) C m20) (fun z => eb_MF j m z.2 ∧ ∀ y, eb_fM z.2 j b (L, C, 0, y, x)) := fun x hx => by
    unfold f_X12_breathes_j97
    rw [a2, eb_bdR, eb_gN (by omega) (by decide), eb_bdR, nI_clamp (by omega), a3, eb_bdR, eb_noColumn, eb_clR]
    have j141 : eb_W (f_X12_breathes_j141 (nI (4 * j + 3)) x (ea_st m20 284 (4 * j + 2) 0)) (fun z => eb_MF j m z.2 ∧ ∀ y, eb_fM z.2 j b (L, C, 0, y, x)) := by
      unfold f_X12_breathes_j141
      rw [eb_gN (by omega) (by decide), nI_clamp (by omega)]
      refine eb_bdE fun m37 e37 => eb_some ?_
      have h37 : ∀ r, r ≠ 284 → m37 r = m20 r := fun r hr => by rw [e37, eb_stA _ _ _ hr, eb_stA _ _ _ hr]
      refine ⟨fr m37 h37 fun i q => ?_, fun y => ⟨f285 m37 h37, ?_, ?_, ?_, ?_⟩⟩
      · rw [e37, eb_stI _ _ _ (by omega), eb_stI _ _ _ (by omega)]
      · show m37 284 (4 * j) = L
        rw [e37, eb_stI _ _ _ (by omega), eb_stI _ _ _ (by omega)]; exact L20
      · show m37 284 (4 * j + 1) = C
        rw [e37, eb_stI _ _ _ (by omega), eb_stI _ _ _ (by omega)]; exact C20
      · show m37 284 (4 * j + 2) = 0
        rw [e37, eb_stI _ _ _ (by omega), eb_st]
      · show m37 284 (4 * j + 3) = x
        rw [e37, eb_st]
    by_cases q1 : 0 ≤ C ∧ C < nI 16
    · rw [if_pos q1, if_pos rfl, eb_isOverE, eb_clR, eb_stA _ _ _ (by decide), r20 273 (by decide), hB12.1]
      by_cases q2 : w 9 ≤ C ∧ C ≤ w 10
      · rw [if_pos ⟨q1, q2⟩] at hx
        rw [if_pos q2, if_neg eb_ne10, nI_1, ← hx]
        exact j141
      · rw [if_neg (fun z => q2 z.2)] at hx
        rw [if_neg q2, if_pos rfl]
        unfold f_X12_breathes_j140
        subst hx
        exact j141
    · rw [if_neg (fun z => q1 z.1)] at hx
      rw [if_neg q1, if_neg eb_ne10]
      unfold f_X12_breathes_j140
      subst hx
      exact j141
  by_cases q1 : 0 ≤ C ∧ C < nI 16
  · have nq : ¬ (C < 0 ∨ 16 ≤ C) := fun z => z.elim (fun y => absurd q1.1 (Int32.not_le.mpr y)) (fun y => absurd q1.2 (Int32.not_lt.mpr y))
    rw [if_pos q1, if_pos rfl, if_neg nq]
    by_cases q3 : L ≤ 0
    · rw [if_pos q3, if_neg (Int32.not_lt.mpr q3)]
      refine eb_mono (j97 _ rfl) fun z hz => ⟨hz.1, ?_⟩
      have e : (if (0 ≤ C ∧ C < nI 16) ∧ w 9 ≤ C ∧ C ≤ w 10 then nI (k + 1) else 0) = if w 9 ≤ C ∧ C ≤ w 10 then nI (k + 1) else 0 := by
        by_cases q2 : w 9 ≤ C ∧ C ≤ w 10
        · rw [if_pos ⟨q1, q2⟩, if_pos q2]
        · rw [if_neg (fun z => q2 z.2), if_neg q2]
      rw [e] at hz
      exact hz.2 _
    · rw [if_neg q3, if_pos (Int32.not_le.mp q3)]
      exact eb_some ⟨fr m20 (fun _ _ => rfl) fun _ _ => rfl, f285 m20 fun _ _ => rfl, L20, C20, (i20 _ (by omega) (by omega)).trans s3, (i20 _ (by omega) (by omega)).trans s5⟩
  · have nq : C < 0 ∨ 16 ≤ C := by
      by_cases y : C < 0
      · exact Or.inl y
      · exact Or.inr (Int32.not_lt.mp fun z => q1 ⟨Int32.not_lt.mp y, z⟩)
    rw [if_neg q1, if_neg eb_ne10, if_pos nq]
    refine eb_mono (j97 0 (by rw [if_neg (fun z => q1 z.1)])) fun z hz => ⟨hz.1, hz.2 _⟩
theorem eb_MF_273 {j : Nat} (h : eb_MF j m mm) : mm 273 = m 273 := h.1 273 (by decide) (by decide) (by decide)
/-! the start of a feather -/
theorem eb_releaseA {R b : Nat} (hR : R = 74 ∨ R = 75) (m : ea_M) : eb_W (f_X0_release R (nI b) m) (fun z => (∀ r, r ≠ R → z.2 r = m r) ∧ eb_fA z.2 R b (m 2 1, m 2 0, 1, 0, 0)) := by
  unfold f_X0_release
  refine eb_bdE fun m1 e1 => eb_bdV (w := m 2 1) (by rw [e1, eb_stA _ _ _ (by omega)]) (eb_bdE fun m3 e3 => eb_bdV (w := m 2 0) (by rw [e3, eb_stA _ _ _ (by omega), e1, eb_stA _ _ _ (by omega)]) (eb_bdE fun m5 e5 => eb_bdE fun m6 e6 => eb_bdE fun m7 e7 => eb_bdE fun m8 e8 => eb_some ⟨fun r hr => ?_, ?_, ?_, ?_, ?_, ?_, ?_⟩))
  · show m8 r = _
    rw [e8, eb_stA _ _ _ hr, e7, eb_stA _ _ _ hr, e6, eb_stA _ _ _ hr, e5, eb_stA _ _ _ hr, e3, eb_stA _ _ _ hr, e1, eb_stA _ _ _ hr]
  · show m8 R 0 = _
    rw [e8, eb_stI _ _ _ (by decide), e7, eb_stI _ _ _ (by decide), e6, eb_stI _ _ _ (by decide), e5, eb_stI _ _ _ (by decide), e3, eb_stI _ _ _ (by decide), e1, eb_st]
  · show m8 R 1 = _
    rw [e8, eb_stI _ _ _ (by decide), e7, eb_stI _ _ _ (by decide), e6, eb_stI _ _ _ (by decide), e5, eb_stI _ _ _ (by decide), e3, eb_st]
  · show m8 R 2 = _
    rw [e8, eb_stI _ _ _ (by decide), e7, eb_stI _ _ _ (by decide), e6, eb_stI _ _ _ (by decide), e5, eb_st]
  · show m8 R 3 = _
    rw [e8, eb_stI _ _ _ (by decide), e7, eb_stI _ _ _ (by decide), e6, eb_st]
  · show m8 R 4 = _
    rw [e8, eb_stI _ _ _ (by decide), e7, eb_st]
  · show m8 R 5 = _
    rw [e8, eb_st]
theorem eb_beginsM {j b : Nat} (hj : j < 2) (m : ea_M) : eb_W (f_X12_begins (nI j) (nI b) m) (fun z => (∀ r, r ≠ 284 → r ≠ 285 → z.2 r = m r) ∧ (∀ i, i ≠ j → z.2 285 i = m 285 i) ∧ (∀ i, ¬ (4 * j ≤ i ∧ i < 4 * j + 4) → z.2 284 i = m 284 i) ∧ ∀ y, eb_fM z.2 j b (m 273 8, m 273 7, 1, y, 0)) := by
  have a0 : (4 : Int32) * nI j = nI (4 * j) := pk_mul 4 j
  have a1 : (4 : Int32) * nI j + 1 = nI (4 * j + 1) := eb_ixs j 1 1 rfl
  have a2 : (4 : Int32) * nI j + 2 = nI (4 * j + 2) := eb_ixs j 2 2 rfl
  have a3 : (4 : Int32) * nI j + 3 = nI (4 * j + 3) := eb_ixs j 3 3 rfl
  unfold f_X12_begins
  rw [eb_gN hj (by decide), nI_clamp (by omega), a1, a2, a3, a0]
  refine eb_bdE fun m1 e1 => eb_bdV (w := m 273 8) (by rw [e1, eb_stA _ _ _ (by decide)]) ?_
  rw [eb_gN (by omega) (by decide), nI_clamp (by omega)]
  refine eb_bdE fun m3 e3 => eb_bd (eb_bdV (w := m 273 7) (by rw [e3, eb_stA _ _ _ (by decide), e1, eb_stA _ _ _ (by decide)]) ?_)
  rw [eb_gN (by omega) (by decide), nI_clamp (by omega)]
  refine eb_bdE fun m6 e6 => eb_bd ?_
  rw [eb_gN (by omega) (by decide), nI_clamp (by omega)]
  refine eb_bdE fun m8 e8 => eb_bd ?_
  rw [eb_gN (by omega) (by decide), nI_clamp (by omega)]
  refine eb_bdE fun m10 e10 => eb_some ⟨fun r q1 q2 => ?_, fun i hi => ?_, fun i hi => ?_, fun y => ⟨?_, ?_, ?_, ?_, ?_⟩⟩
  · show m10 r = _
    rw [e10, eb_stA _ _ _ q1, e8, eb_stA _ _ _ q1, e6, eb_stA _ _ _ q1, e3, eb_stA _ _ _ q1, e1, eb_stA _ _ _ q2]
  · show m10 285 i = _
    rw [e10, eb_stA _ _ _ (by decide), e8, eb_stA _ _ _ (by decide), e6, eb_stA _ _ _ (by decide), e3, eb_stA _ _ _ (by decide), e1, eb_stI _ _ _ hi]
  · show m10 284 i = _
    rw [e10, eb_stI _ _ _ (by omega), e8, eb_stI _ _ _ (by omega), e6, eb_stI _ _ _ (by omega), e3, eb_stI _ _ _ (by omega), e1, eb_stA _ _ _ (by decide)]
  · show m10 285 j = _
    rw [e10, eb_stA _ _ _ (by decide), e8, eb_stA _ _ _ (by decide), e6, eb_stA _ _ _ (by decide), e3, eb_stA _ _ _ (by decide), e1, eb_st]
  · show m10 284 (4 * j) = _
    rw [e10, eb_stI _ _ _ (by omega), e8, eb_stI _ _ _ (by omega), e6, eb_stI _ _ _ (by omega), e3, eb_st]
  · show m10 284 (4 * j + 1) = _
    rw [e10, eb_stI _ _ _ (by omega), e8, eb_stI _ _ _ (by omega), e6, eb_st]
  · show m10 284 (4 * j + 2) = _
    rw [e10, eb_stI _ _ _ (by omega), e8, eb_st]
  · show m10 284 (4 * j + 3) = _
    rw [e10, eb_st]
end BREATH
