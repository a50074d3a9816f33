section REMEMBER
variable {m m' : ea_M}
theorem eb_rCourt : ∀ x, x < 12 → ea_rCourt.getD x 0 = 86 + 14 * x := by decide
theorem eb_min12 {q : Nat} (hq : q ≤ 12) : ea_min 12 (nI q + 1) = nI (min 12 (q + 1)) := by
  rw [nI_1]
  unfold ea_min
  by_cases h : q = 12
  · subst h
    rfl
  · by_cases h2 : q = 11
    · subst h2
      rfl
    · rw [if_pos (show nI (q + 1) < 12 from nI_lt (a := q + 1) (b := 12) (by omega) (by decide)), show min 12 (q + 1) = q + 1 by omega]
theorem eb_rememberA {x q : Nat} (hx : x < 12) (hq : q ≤ 12) (e14 : m 0 14 = nI x) (e13 : m 0 13 = nI q) : eb_W (f_X11_remember m) (fun z => (∀ i j, j < eb_len i → z.2 (86 + 14 * x + i) j = m (2 + i) j) ∧ (∀ b, b ≠ 0 → ¬ (86 + 14 * x ≤ b ∧ b < 100 + 14 * x) → z.2 b = m b) ∧ z.2 0 13 = nI (min 12 (q + 1)) ∧ z.2 0 14 = nI ((x + 1) % 12) ∧ ∀ i, i ≠ 13 → i ≠ 14 → z.2 0 i = m 0 i) := by
  unfold f_X11_remember
  refine eb_bdV e14 (eb_g x hx (eb_bdV (w := 86 + 14 * x) (by rw [nI_clamp (by omega)]; exact eb_rCourt x hx) (eb_cl (eb_copy (86 + 14 * x) 2 (by omega) m) fun r1 m1 h1 => ?_)))
  dsimp only at h1
  obtain ⟨h1, h2⟩ := h1
  have z0 : m1 0 = m 0 := h2 0 (by omega)
  have e1 : nI x + 1 - (nI x + 1) / 12 * 12 = nI ((x + 1) % 12) := by
    rw [nI_1]
    exact pk_rem (d := 12) (by omega) (by decide) (by decide)
  refine eb_bdV (w := nI x) (by rw [z0]; exact e14) (eb_bdV e1 (eb_bd ?_))
  refine eb_bdV (w := nI q) (by rw [eb_stI _ _ _ (by decide), z0]; exact e13) (eb_bdV (eb_min12 hq) (eb_bd (eb_some ⟨fun i j hj => ?_, fun b hb hb2 => ?_, ?_, ?_, fun i hi1 hi2 => ?_⟩)))
  · show ea_st (ea_st m1 0 14 (nI ((x + 1) % 12))) 0 13 (nI (min 12 (q + 1))) (86 + 14 * x + i) j = _
    rw [eb_stA _ _ _ (by omega), eb_stA _ _ _ (by omega)]
    exact h1 i j hj
  · show ea_st (ea_st m1 0 14 (nI ((x + 1) % 12))) 0 13 (nI (min 12 (q + 1))) b = _
    rw [eb_stA _ _ _ hb, eb_stA _ _ _ hb]
    exact h2 b (by omega)
  · exact eb_st (ea_st m1 0 14 (nI ((x + 1) % 12))) 0 13 (nI (min 12 (q + 1)))
  · show ea_st (ea_st m1 0 14 (nI ((x + 1) % 12))) 0 13 (nI (min 12 (q + 1))) 0 14 = _
    rw [eb_stI _ _ _ (by decide), eb_st]
  · show ea_st (ea_st m1 0 14 (nI ((x + 1) % 12))) 0 13 (nI (min 12 (q + 1))) 0 i = _
    rw [eb_stI _ _ _ hi1, eb_stI _ _ _ hi2, z0]
theorem eb_remembersM {q : Nat} (hq : q ≤ 12) (e7 : m 272 7 = nI q) : eb_W (f_X12_remembers m) (fun y => (∀ a, a ≠ 272 → a ≠ 277 → y.2 a = m a) ∧ (∀ i, i ≠ 7 → y.2 272 i = m 272 i) ∧ y.2 272 7 = nI (min 12 (q + 1)) ∧ ∀ j i, j < min 12 (q + 1) → i < 482 → y.2 277 (482 * j + i) = if j + 1 = min 12 (q + 1) then m 273 i else m 277 (482 * (if q = 12 then j + 1 else j) + i)) := by
  unfold f_X12_remembers
  refine eb_bdV e7 ?_
  -- the second loop, out of any memory
  have key : ∀ (mm : ea_M) (n : Nat), 1 ≤ n → n ≤ 12 → mm 272 7 = nI n → eb_W (f_X12_remembers_j53 mm) (fun y => (∀ a, a ≠ 277 → y.2 a = mm a) ∧ ∀ i, y.2 277 i = if 482 * (n - 1) ≤ i ∧ i < 482 * n then mm 273 (i - 482 * (n - 1)) else mm 277 i) := by
    intro mm n hn1 hn12 en
    unfold f_X12_remembers_j53
    refine eb_bind (eb_for (Q := fun z => (∀ a, a ≠ 277 → z a = mm a) ∧ ∀ i, z 277 i = if 482 * (n - 1) ≤ i ∧ i < 482 * n then mm 273 (i - 482 * (n - 1)) else mm 277 i) 482 (fun k s => s.1 = nI k ∧ (∀ a, a ≠ 277 → s.2 a = mm a) ∧ ∀ i, s.2 277 i = if 482 * (n - 1) ≤ i ∧ i < 482 * (n - 1) + k then mm 273 (i - 482 * (n - 1)) else mm 277 i) ?_ ?_ (by decide) ⟨rfl, fun _ _ => rfl, fun i => by rw [if_neg (by omega)]⟩) fun z hz => eb_some hz
    · intro k s hk hI
      obtain ⟨c, ms⟩ := s
      obtain ⟨g1, g2, g3⟩ := hI
      have g1 : c = nI k := g1
      subst g1
      have g2 : ∀ a, a ≠ 277 → ms a = mm a := g2
      have g3 : ∀ i, ms 277 i = if 482 * (n - 1) ≤ i ∧ i < 482 * (n - 1) + k then mm 273 (i - 482 * (n - 1)) else mm 277 i := g3
      unfold f_X12_remembers_s55
      refine eb_else (nI_ge (b := 482) hk (by decide)) ?_
      refine eb_bdV (w := nI n) (by show ms 272 7 = _; rw [g2 272 (by decide)]; exact en) ?_
      have ex : (482 : Int32) * (nI n - 1) = nI (482 * (n - 1)) := by
        rw [show nI n - 1 = nI (n - 1) from pk_sub (b := 1) hn1]
        exact pk_mul 482 (n - 1)
      refine eb_bdV ex (eb_g k (by omega) (eb_bdV (w := mm 273 k) (by show ms 273 (Int32.toNatClampNeg (nI k)) = _; rw [nI_clamp (by omega), g2 273 (by decide)]) (eb_g (482 * (n - 1) + k) (by omega) (eb_bd (eb_some ⟨nI_1 k, fun a ha => ?_, fun i => ?_⟩)) (hi := nI_add _ _))))
      · show ea_st ms 277 _ _ a = _
        rw [eb_stA _ _ _ ha]
        exact g2 a ha
      · show ea_st ms 277 (Int32.toNatClampNeg (nI (482 * (n - 1)) + nI k)) (mm 273 k) 277 i = _
        rw [nI_add, nI_clamp (by omega), eb_sts, g3]
        by_cases q1 : i = 482 * (n - 1) + k
        · rw [if_pos ⟨rfl, q1⟩, if_pos ⟨by omega, by omega⟩, show i - 482 * (n - 1) = k by omega]
        · rw [if_neg (fun z => q1 z.2)]
          by_cases q2 : 482 * (n - 1) ≤ i ∧ i < 482 * (n - 1) + k
          · rw [if_pos q2, if_pos ⟨q2.1, by omega⟩]
          · rw [if_neg q2, if_neg (by omega)]
    · intro s hI
      unfold f_X12_remembers_s55
      refine eb_if (by rw [hI.1]; decide) (eb_some ⟨hI.2.1, fun i => ?_⟩)
      have := hI.2.2 i
      rw [this, show 482 * (n - 1) + 482 = 482 * n by omega]
  by_cases h12 : q = 12
  · subst h12
    refine eb_if rfl ?_
    refine eb_bind (eb_for (Q := fun z => (∀ a, a ≠ 277 → z a = m a) ∧ ∀ i, z 277 i = if i < 5302 then m 277 (i + 482) else m 277 i) 5302 (fun k s => s.1 = nI k ∧ (∀ a, a ≠ 277 → s.2 a = m a) ∧ ∀ i, s.2 277 i = if i < k then m 277 (i + 482) else m 277 i) ?_ ?_ (by decide) ⟨rfl, fun _ _ => rfl, fun i => by rw [if_neg (by omega)]⟩) fun z hz => ?_
    · intro k s hk hI
      obtain ⟨c, ms⟩ := s
      obtain ⟨g1, g2, g3⟩ := hI
      have g1 : c = nI k := g1
      subst g1
      have g2 : ∀ a, a ≠ 277 → ms a = m a := g2
      have g3 : ∀ i, ms 277 i = if i < k then m 277 (i + 482) else m 277 i := g3
      unfold f_X12_remembers_s11
      have ek : nI k + 482 = nI (k + 482) := nI_add k 482
      refine eb_else (nI_ge (b := 5302) hk (by decide)) (eb_g (k + 482) (by omega) (eb_bdV (w := m 277 (k + 482)) (by show ms 277 (Int32.toNatClampNeg (nI k + 482)) = _; rw [ek, nI_clamp (by omega), g3, if_neg (by omega)]) (eb_g k (by omega) (eb_bd (eb_some ⟨nI_1 k, fun a ha => ?_, fun i => ?_⟩)))) (hi := ek))
      · show ea_st ms 277 _ _ a = _
        rw [eb_stA _ _ _ ha]
        exact g2 a ha
      · show ea_st ms 277 (Int32.toNatClampNeg (nI k)) (m 277 (k + 482)) 277 i = _
        rw [nI_clamp (by omega), eb_sts, g3]
        by_cases q1 : i = k
        · rw [if_pos ⟨rfl, q1⟩, if_pos (by omega), q1]
        · rw [if_neg (fun z => q1 z.2)]
          by_cases q2 : i < k
          · rw [if_pos q2, if_pos (by omega)]
          · rw [if_neg q2, if_neg (by omega)]
    · intro s hI
      unfold f_X12_remembers_s11
      exact eb_if (by rw [hI.1]; decide) (eb_some hI.2)
    · refine eb_mono (key z 12 (by decide) (by decide) (by rw [hz.1 272 (by decide)]; exact e7)) fun y hy => ⟨fun a h1 h2 => ?_, fun i hi => ?_, ?_, fun j i hj hi => ?_⟩
      · rw [hy.1 a h2, hz.1 a h2]
      · rw [hy.1 272 (by decide), hz.1 272 (by decide)]
      · rw [hy.1 272 (by decide), hz.1 272 (by decide)]
        exact e7
      · have hj : j < 12 := by omega
        rw [hy.2, hz.2, hz.1 273 (by decide)]
        by_cases q1 : j = 11
        · subst q1
          rw [if_pos ⟨by omega, by omega⟩, if_pos (by decide), show 482 * 11 + i - 482 * (12 - 1) = i by omega]
        · rw [if_neg (by omega), if_pos (by omega), if_neg (by omega), if_pos rfl, show 482 * j + i + 482 = 482 * (j + 1) + i by omega]
  · refine eb_else (fun z => h12 ((nI_eq (a := q) (b := 12) (by omega) (by decide)).mp z)) (eb_bdV e7 (eb_bd ?_))
    refine eb_mono (key (ea_st m 272 7 (nI q + 1)) (q + 1) (by omega) (by omega) (by rw [eb_st, nI_1])) fun y hy => ⟨fun a h1 h2 => ?_, fun i hi => ?_, ?_, fun j i hj hi => ?_⟩
    · rw [hy.1 a h2, eb_stA _ _ _ h1]
    · rw [hy.1 272 (by decide), eb_stI _ _ _ hi]
    · rw [hy.1 272 (by decide), eb_st, nI_1, show min 12 (q + 1) = q + 1 by omega]
    · have hm : min 12 (q + 1) = q + 1 := by omega
      rw [hm] at hj ⊢
      rw [hy.2, eb_stA _ _ _ (by decide), eb_stA _ _ _ (by decide)]
      by_cases q1 : j = q
      · subst q1
        rw [if_pos ⟨by omega, by omega⟩, if_pos rfl, show 482 * j + i - 482 * (j + 1 - 1) = i by omega]
      · rw [if_neg (by omega), if_neg (by omega), if_neg h12]
end REMEMBER
