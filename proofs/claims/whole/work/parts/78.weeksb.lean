section WEEKSB
variable {m : ea_M}
def eb_wkc (m : ea_M) (T : Nat → Nat) (k : Nat) : Nat → Nat → Int32 := fun i j => if i = 7 ∧ j < 24 then nI (T j) else if i = 0 ∧ j = 5 then nI k else m (2 + i) j
def eb_wkw (w : Nat → Int32) (T : Nat → Nat) (k : Nat) : Nat → Int32 := fun j => if 50 ≤ j ∧ j < 74 then nI (T (j - 50)) else if j = 5 then nI k else w j
theorem eb_p_weeks (p : Int32) (h : eb_I m) : eb_P eb_I (f_L_weeks p m) (f_X12_weeks p) := by
  by_cases hp : 1 ≤ p ∧ p ≤ 60
  · obtain ⟨x, hx, ex⟩ := nI_of2 (M := 60) (n := 60) (by decide) (Int32.not_lt.mpr (Int32.le_trans (by decide) hp.1)) hp.2
    obtain ⟨n, hn, e1, e2, e3⟩ := eb_IB h
    obtain ⟨nc, hnc, f1, f2, f3⟩ := eb_IN h
    obtain ⟨s, hsd⟩ : ∃ s : Nat → Nat, ∀ j, s j = (m 273 (50 + j)).toNatClampNeg := ⟨_, fun _ => rfl⟩
    obtain ⟨mo, hmod⟩ : ∃ mo : Nat → Nat, ∀ b, mo b = (m 273 (29 + 4 * b)).toNatClampNeg := ⟨_, fun _ => rfl⟩
    obtain ⟨⟨a1, a2, a3, a4, a5, a6, a7, a8, a9, a10, a11, a12⟩, ⟨b1, b2, b3, b4, ⟨wk, hwk, ewk⟩, b6, b7, b8, b9, b10, b11⟩, h3, h4, h5, h6, h7⟩ := h.1.1
    have st : ∀ j, j < 24 → m 9 j = nI (s j) ∧ m 273 (50 + j) = nI (s j) ∧ s j ≤ 99 ∧ (n ≤ j % 6 → s j = 0) := fun j hj => by
      obtain ⟨k1, ⟨q, hq, eq⟩, k3⟩ := h5 (j / 6) (j % 6) (by omega) (by omega)
      have k1 : m 9 (6 * (j / 6) + j % 6) = m 273 (50 + 6 * (j / 6) + j % 6) := k1
      rw [show 50 + 6 * (j / 6) + j % 6 = 50 + j by omega] at k1 eq k3
      rw [show 6 * (j / 6) + j % 6 = j by omega] at k1
      have es : s j = q := by rw [hsd, eq]; exact nI_clamp (by omega)
      refine ⟨by rw [k1, eq, es], by rw [eq, es], by omega, fun z => ?_⟩
      have := k3 (by rw [e3]; exact z)
      rw [eq] at this
      have : q = 0 := (nI_eq (a := q) (b := 0) (by omega) (by decide)).mp this
      omega
    have hs : ∀ j, j < 24 → s j ≤ 99 := fun j hj => (st j hj).2.2.1
    have mt : ∀ b, b < n → m 7 b = nI (mo b) ∧ m 273 (29 + 4 * b) = nI (mo b) ∧ mo b ≤ 5 := fun b hb => by
      obtain ⟨_, _, _, k1, ⟨q, hq, eq⟩⟩ := h4 b (by rw [e3]; exact hb)
      have k1 : m 7 b = m 273 (29 + 4 * b) := k1
      have es : mo b = q := by rw [hmod, eq]; exact nI_clamp (by omega)
      exact ⟨by rw [k1, eq, es], by rw [eq, es], by omega⟩
    have hmo : ∀ b, b < n → mo b ≤ 5 := fun b hb => (mt b hb).2.2
    obtain ⟨T, hT⟩ : ∃ T : Nat → Nat, ∀ j, T j = eb_tk s mo nc n x j := ⟨_, fun _ => rfl⟩
    have hT99 : ∀ j, j < 24 → T j ≤ 99 := fun j hj => by rw [hT]; exact eb_tk_le hs hj
    have hT0 : ∀ j, j < 24 → n ≤ j % 6 → T j = 0 := fun j hj hz => by
      rw [hT]
      unfold eb_tk
      rw [if_neg (by omega)]
      exact (st j hj).2.2.2 hz
    subst ex
    unfold f_L_weeks
    refine eb_actP (A := fun z => (ea_loop (f_X11_weeks_s16 (nI x)) ea_fuel (0, 0, z)).bind (fun x16s => ea_bd (x16s.2 2 5) fun x11 => ea_bd (ea_min 9999 (x11 + nI x)) fun x12 => ea_bd (ea_st x16s.2 2 5 x12) fun m13 => some (0, x16s.1, m13))) (B := fun y => (ea_loop (f_X12_weeks_s38 (nI x)) ea_fuel (0, 0, y)).bind (fun x38s => some (x38s.1, x38s.2))) (nI (eb_rk s mo nc n 0 x nc)) (eb_wkc m T (min 9999 (wk + x))) (eb_wkw (m 273) T (min 9999 (wk + x))) (m 0 18) h ?_ (fun m1 q1 => ?_) (fun z z1 z2 => ?_) (fun y e => ?_) ?_ (Or.inr ⟨rfl, ?_, fun j hj => ?_⟩)
    · unfold f_X11_weeks
      rw [eb_needWithin, if_pos hp, eb_cx0]
    · unfold f_X12_weeks
      rw [eb_bdR, eb_inW, if_pos hp, eb_clR, if_neg eb_ne10]
      unfold f_X12_weeks_j21
      rw [eb_throwsIf0, eb_clR, if_pos rfl]
    · refine eb_bind (eb_weeksA (z := z) x hx hnc hn hs hmo ?_ ?_ (fun b hb => ?_) fun j hj => ?_) fun t ht => ?_
      · rw [z1 2 (by decide) (by omega)]; exact e2
      · rw [z1 8 (by decide) (by omega)]; exact f2
      · rw [z1 7 (by decide) (by omega)]; exact (mt b hb).1
      · rw [z1 9 (by decide) (by omega)]; exact (st j hj).1
      · obtain ⟨t1, t2⟩ := t
        obtain ⟨g1, g2, g3, g4⟩ := ht
        have g1 : t1 = nI (eb_rk s mo nc n 0 x nc) := g1
        have g2 : ∀ r, r ≠ 9 → t2 r = z r := g2
        have g3 : ∀ j, j < 24 → t2 9 j = nI (eb_tk s mo nc n x j) := g3
        have g4 : ∀ j, 24 ≤ j → t2 9 j = z 9 j := g4
        refine eb_bdV (w := nI wk) (by show t2 2 5 = _; rw [g2 2 (by decide), z1 2 (by decide) (by omega)]; exact Eq.trans a6 ewk) (eb_bdV (w := nI (min 9999 (wk + x))) (by rw [nI_add]; exact eb_minN (a := 9999) (by decide) (by omega)) (eb_bd (eb_some ⟨rfl, g1, fun a i hw => ?_, fun i j hi => ?_, ?_⟩)))
        · show ea_st t2 2 5 _ a i = _
          unfold eb_W1 at hw
          rw [eb_stA _ _ _ (by omega), g2 a (by omega)]
        · show ea_st t2 2 5 (nI (min 9999 (wk + x))) (2 + i) j = _
          unfold eb_wkc
          rw [eb_sts]
          by_cases u1 : i = 7 ∧ j < 24
          · rw [if_neg (by omega), if_pos u1, hT, ← g3 j u1.2, u1.1]
          · rw [if_neg u1]
            by_cases u2 : i = 0 ∧ j = 5
            · rw [if_pos u2, if_pos (by omega)]
            · rw [if_neg u2, if_neg (by omega)]
              by_cases u3 : i = 7
              · subst u3
                rw [show 2 + 7 = 9 from rfl, g4 j (by omega), z1 9 (by decide) (by omega)]
              · rw [g2 _ (by omega), z1 _ (by omega) (by omega)]
        · show ea_st t2 2 5 (nI (min 9999 (wk + x))) 0 18 = _
          rw [eb_stA _ _ _ (by decide), g2 0 (by decide)]
          exact z2 18 (by decide) (by decide)
    · refine eb_bind (eb_for (Q := fun t => t.1 = nI (eb_rk s mo nc n 0 x nc) ∧ (∀ r, r ≠ 273 → t.2 r = y r) ∧ t.2 273 5 = nI (min 9999 (wk + x)) ∧ (∀ j, j < 24 → t.2 273 (50 + j) = nI (eb_tk s mo nc n x j)) ∧ ∀ j, j ≠ 5 → ¬ (50 ≤ j ∧ j < 74) → t.2 273 j = y 273 j) x (fun k t => t.1 = nI (eb_rk s mo nc n 0 k nc) ∧ t.2.1 = nI k ∧ (∀ r, r ≠ 273 → t.2.2 r = y r) ∧ t.2.2 273 5 = nI (min 9999 (wk + k)) ∧ (∀ j, j < 24 → t.2.2 273 (50 + j) = nI (eb_tk s mo nc n k j)) ∧ ∀ j, j ≠ 5 → ¬ (50 ≤ j ∧ j < 74) → t.2.2 273 j = y 273 j) ?_ ?_ (by unfold ea_fuel; omega) ⟨by rw [eb_rk_0]; rfl, rfl, fun _ _ => rfl, ?_, fun j hj => ?_, fun _ _ _ => rfl⟩) fun t ht => ?_
      · rintro k ⟨t1, t2, mm⟩ hk ⟨g1, g2, g3, g4, g5, g6⟩
        have g1 : t1 = nI (eb_rk s mo nc n 0 k nc) := g1
        have g2 : t2 = nI k := g2
        subst g1 g2
        have g3 : ∀ r, r ≠ 273 → mm r = y r := g3
        have g4 : mm 273 5 = nI (min 9999 (wk + k)) := g4
        have g5 : ∀ j, j < 24 → mm 273 (50 + j) = nI (eb_tk s mo nc n k j) := g5
        have g6 : ∀ j, j ≠ 5 → ¬ (50 ≤ j ∧ j < 74) → mm 273 j = y 273 j := g6
        unfold f_X12_weeks_s38
        refine eb_else (nI_ge hk (by omega)) ?_
        refine eb_cl (eb_weekM (y := mm) k (min 9999 (wk + k)) (by omega) hnc hn hs hmo (by rw [g6 0 (by decide) (by omega), e]; exact e1) (by rw [g6 1 (by decide) (by omega), e]; exact f1) g4 (fun b hb => by rw [g6 _ (by omega) (by omega), e]; exact (mt b hb).2.1) g5) fun r1 mz hz => ?_
        dsimp only at hz
        obtain ⟨z1, z2, z3, z4, z5⟩ := hz
        subst z1
        dsimp only
        rw [eb_bdR, nI_add, ← eb_rk_add hnc hn hs, nI_1]
        refine eb_some ⟨rfl, rfl, fun r hr => ?_, ?_, z4, fun j q1 q2 => ?_⟩
        · exact (z2 r hr).trans (g3 r hr)
        · show mz 273 5 = _
          rw [z3, show min 9999 (min 9999 (wk + k) + 1) = min 9999 (wk + (k + 1)) by omega]
        · exact (z5 j q1 q2).trans (g6 j q1 q2)
      · rintro ⟨t1, t2, mm⟩ ⟨g1, g2, g3⟩
        have g2 : t2 = nI x := g2
        subst g2
        unfold f_X12_weeks_s38
        exact eb_if (nI_le (Nat.le_refl _) (by omega)) (eb_some ⟨g1, g3⟩)
      · show y 273 5 = _
        rw [e, show min 9999 (wk + 0) = wk by omega]
        exact ewk
      · show y 273 (50 + j) = _
        rw [e, eb_tk_0 hs hj]
        exact (st j hj).2.1
      · obtain ⟨t1, t2⟩ := t
        obtain ⟨g1, g2, g3, g4, g5⟩ := ht
        have g2 : ∀ r, r ≠ 273 → t2 r = y r := g2
        have g3 : t2 273 5 = nI (min 9999 (wk + x)) := g3
        have g4 : ∀ j, j < 24 → t2 273 (50 + j) = nI (eb_tk s mo nc n x j) := g4
        have g5 : ∀ j, j ≠ 5 → ¬ (50 ≤ j ∧ j < 74) → t2 273 j = y 273 j := g5
        refine eb_some ⟨g1, fun a i hw => ?_, ?_, ?_, ?_⟩
        · show t2 a i = y a i
          unfold eb_W2 at hw
          by_cases q : a = 273
          · subst q
            exact g5 i (by omega) (by omega)
          · rw [g2 a q]
        · show t2 272 0 = _
          rw [g2 272 (by decide)]
        · show t2 287 0 = _
          rw [g2 287 (by decide)]
        · funext j
          show t2 273 j = _
          unfold eb_wkw
          by_cases u1 : 50 ≤ j ∧ j < 74
          · rw [if_pos u1, hT, ← g4 (j - 50) (by omega), show 50 + (j - 50) = j by omega]
          · rw [if_neg u1]
            by_cases u2 : j = 5
            · rw [if_pos u2, u2, g3]
            · rw [if_neg u2, g5 j u2 u1, e]
    · have w' : ∀ j, j ≠ 5 → ¬ (50 ≤ j ∧ j < 74) → eb_wkw (m 273) T (min 9999 (wk + x)) j = m 273 j := fun j q1 q2 => by
        unfold eb_wkw
        rw [if_neg q2, if_neg q1]
      have w5 : eb_wkw (m 273) T (min 9999 (wk + x)) 5 = nI (min 9999 (wk + x)) := by
        unfold eb_wkw
        rw [if_neg (by omega), if_pos rfl]
      have c' : ∀ i j, ¬ (i = 7 ∧ j < 24) → ¬ (i = 0 ∧ j = 5) → eb_wkc m T (min 9999 (wk + x)) i j = eb_ct m 2 i j := fun i j q1 q2 => by
        unfold eb_wkc
        rw [if_neg q1, if_neg q2]
        rfl
      have c5 : eb_wkc m T (min 9999 (wk + x)) 0 5 = nI (min 9999 (wk + x)) := by
        unfold eb_wkc
        rw [if_neg (by omega), if_pos ⟨rfl, rfl⟩]
      refine ⟨?_, ?_, eb_C3_cg (fun j _ => c' 1 j (by omega) (by omega)) (fun j _ _ => w' j (by omega) (by omega)) h3, eb_C4_cg (fun i j _ _ _ => c' i j (by omega) (by omega)) (w' 0 (by omega) (by omega)) (fun j _ _ => w' j (by omega) (by omega)) b1.2 h4, fun n' b' hn' hb' => ?_, eb_C6_cg (fun i j _ _ _ => c' i j (by omega) (by omega)) (w' 0 (by omega) (by omega)) (w' 1 (by omega) (by omega)) (w' 2 (by omega) (by omega)) (fun j _ _ => w' j (by omega) (by omega)) b3.2 h6, eb_C7_cg (c' 12 1 (by omega) (by omega)) (fun j _ => c' 13 j (by omega) (by omega)) (w' 11 (by omega) (by omega)) (fun j _ _ => w' j (by omega) (by omega)) b11 h7⟩
      · unfold eb_C1
        rw [c5, w5, c' 0 0 (by omega) (by omega), c' 0 1 (by omega) (by omega), c' 0 2 (by omega) (by omega), c' 0 3 (by omega) (by omega), c' 0 4 (by omega) (by omega), c' 0 6 (by omega) (by omega), c' 0 7 (by omega) (by omega), c' 0 8 (by omega) (by omega), c' 6 0 (by omega) (by omega), c' 6 1 (by omega) (by omega), c' 12 0 (by omega) (by omega), w' 0 (by omega) (by omega), w' 1 (by omega) (by omega), w' 2 (by omega) (by omega), w' 3 (by omega) (by omega), w' 6 (by omega) (by omega), w' 7 (by omega) (by omega), w' 8 (by omega) (by omega), w' 9 (by omega) (by omega), w' 10 (by omega) (by omega), w' 11 (by omega) (by omega), w' 12 (by omega) (by omega)]
        exact ⟨a1, a2, a3, a4, a5, rfl, a7, a8, a9, a10, a11, a12⟩
      · unfold eb_C2
        rw [eb_b_cg (w' 0 (by omega) (by omega)), eb_nc_cg (w' 1 (by omega) (by omega)), eb_k_cg (w' 2 (by omega) (by omega)), eb_sz_cg (w' 11 (by omega) (by omega)), w5, w' 0 (by omega) (by omega), w' 1 (by omega) (by omega), w' 2 (by omega) (by omega), w' 3 (by omega) (by omega), w' 6 (by omega) (by omega), w' 7 (by omega) (by omega), w' 8 (by omega) (by omega), w' 9 (by omega) (by omega), w' 10 (by omega) (by omega), w' 11 (by omega) (by omega)]
        exact ⟨b1, b2, b3, b4, ⟨_, by omega, rfl⟩, b6, b7, b8, b9, b10, b11⟩
      · rw [eb_b_cg (w' 0 (by omega) (by omega)), e3]
        unfold eb_wkc eb_wkw
        rw [if_pos ⟨rfl, by omega⟩, if_pos (by omega), show 50 + 6 * n' + b' - 50 = 6 * n' + b' by omega]
        refine ⟨rfl, ⟨_, hT99 _ (by omega), rfl⟩, fun z => ?_⟩
        rw [hT0 _ (by omega) (by omega)]
        rfl
    · unfold eb_wkw
      rw [if_neg (by omega), if_neg (by omega)]
    · have := eb_rel_hi hj
      unfold eb_wkw
      rw [if_neg (by omega), if_neg (by omega)]
  · refine eb_Pk1 h (k := 1) (v := 0) ?_ ?_ (by decide)
    · simp only [f_L_weeks, f_X11_weeks, eb_needWithin, hp, if_false, eb_cx2]
      rfl
    · simp only [f_X12_weeks, eb_bdR, eb_inW, eb_clR, hp, if_false, if_true, f_X12_weeks_j21, eb_throwsIf1]
      rfl
end WEEKSB
