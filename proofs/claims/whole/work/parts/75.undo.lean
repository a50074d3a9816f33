section UNDO
variable {m m' : ea_M}
theorem eb_pa_cg (hE : ∀ a i, (a = 0 ∧ (i = 13 ∨ i = 14)) ∨ (86 ≤ a ∧ a ≤ 253) ∨ (a = 272 ∧ i = 7) ∨ (a = 273 ∧ i = 4) ∨ a = 277 → m' a i = m a i) (h : eb_pa m) : eb_pa m' := by
  obtain ⟨q, x, p1, p2, p3, p4, p5, p6⟩ := h
  refine ⟨q, x, p1, p2, ?_, ?_, ?_, fun j hj => ⟨eb_C_cg (fun i jj hjj => ?_) (fun i _ => hE 277 _ (by omega)) (p6 j hj).1, ?_⟩⟩
  · rw [hE 0 13 (by omega)]; exact p3
  · rw [hE 272 7 (by omega)]; exact p4
  · rw [hE 0 14 (by omega)]; exact p5
  · have := eb_lenI hjj
    exact hE (86 + 14 * ((x + 12 - q + j) % 12) + i) jj (by omega)
  · rw [hE 273 4 (by omega)]
    exact (hE 277 _ (by omega)).trans (p6 j hj).2
theorem eb_im_cg (hE : ∀ a i, (a = 0 ∧ i = 9) ∨ (50 ≤ a ∧ a ≤ 71) ∨ (a = 272 ∧ i = 6) ∨ a = 274 → m' a i = m a i) (h : eb_im m) : eb_im m' := by
  obtain ⟨i1, i2⟩ := h
  refine ⟨?_, ?_⟩
  · rw [hE 0 9 (by omega), hE 272 6 (by omega)]; exact i1
  · rw [hE 0 9 (by omega)]
    rcases i2 with z | ⟨z, z1, z2⟩
    · exact Or.inl z
    · refine Or.inr ⟨z, eb_C_cg (fun i j hj => ?_) (fun j _ => hE 274 j (by omega)) z1, eb_LR_cg (l := eb_ct m 64) (l' := eb_ct m' 64) (hE 64 0 (by omega)) (hE 64 1 (by omega)) (fun i j _ _ _ => hE (64 + i) j (by omega)) (fun j _ _ => hE 69 j (by omega)) (hE 274 4 (by omega)) (fun j _ hj => hE 274 j (by omega)) z2⟩
      have := eb_lenI hj
      exact hE (50 + i) j (by omega)
theorem eb_LR_m (hE : ∀ a i, (a = 16 ∧ i ≤ 1) ∨ (17 ≤ a ∧ a ≤ 21) → m' a i = m a i) (h4 : m' 273 4 = m 273 4) (hw : ∀ j, 482 ≤ j → j < 1331 → m' 273 j = m 273 j) (h : eb_LR (eb_ct m 16) (m 273)) : eb_LR (eb_ct m' 16) (m' 273) :=
  eb_LR_cg (l := eb_ct m 16) (l' := eb_ct m' 16) (hE 16 0 (by omega)) (hE 16 1 (by omega)) (fun i j _ _ _ => hE (16 + i) j (by omega)) (fun j _ _ => hE 21 j (by omega)) h4 hw h
theorem eb_fa_cg (h : eb_I m) (h18 : m' 0 18 = m 0 18) (hw : ∀ j, eb_rel j → m' 273 j = m 273 j) (h0 : m' 273 0 = m 273 0) (hE : ∀ a i, 254 ≤ a → a ≤ 271 → m' a i = m a i) : eb_fa m' := by
  obtain ⟨h1, h2⟩ := h
  unfold eb_fa at h2 ⊢
  rw [h18, eb_b_cg h0]
  rcases h2 with z | ⟨z, z2⟩
  · exact Or.inl z
  · refine Or.inr ⟨z, fun b hb => ?_⟩
    have h6 : eb_b (m 273) ≤ 6 := h1.1.2.1.1.2
    exact eb_FT_cg hw (eb_lv_of h1.2.1) (by omega) (fun i j hi => hE (254 + 3 * b + i) j (by omega) (by omega)) (z2 b hb)
theorem eb_I_TF (h : eb_I m) (hT : eb_T m') (hF : eb_TF m m') : eb_I m' := by
  obtain ⟨f1, f2, f3⟩ := hF
  have k : ∀ a i, ¬ (a = 0 ∧ i = 1) → a ≠ 1 → ¬ (a = 272 ∧ (i = 9 ∨ i = 0)) → a ≠ 278 → a ≠ 279 → m' a i = m a i := fun a i q1 q2 q3 q4 q5 => by
    by_cases z0 : a = 0
    · subst z0; exact f2 i (by omega)
    · by_cases z2 : a = 272
      · subst z2; exact f3 i (by omega) (by omega)
      · rw [f1 a z0 q2 z2 q4 q5]
  refine ⟨⟨eb_C_cg (fun i j hj => ?_) (fun j _ => k 273 j (by omega) (by omega) (by omega) (by omega) (by omega)) h.1.1, eb_LR_m (fun a i _ => k a i (by omega) (by omega) (by omega) (by omega) (by omega)) (k _ _ (by omega) (by omega) (by omega) (by omega) (by omega)) (fun j _ _ => k _ _ (by omega) (by omega) (by omega) (by omega) (by omega)) h.1.2.1, eb_pa_cg (fun a i _ => k a i (by omega) (by omega) (by omega) (by omega) (by omega)) h.1.2.2.1, eb_im_cg (fun a i _ => k a i (by omega) (by omega) (by omega) (by omega) (by omega)) h.1.2.2.2.1, hT, ?_⟩, eb_fa_cg h (k _ _ (by omega) (by omega) (by omega) (by omega) (by omega)) (fun j _ => k _ _ (by omega) (by omega) (by omega) (by omega) (by omega)) (k _ _ (by omega) (by omega) (by omega) (by omega) (by omega)) (fun a i _ _ => k _ _ (by omega) (by omega) (by omega) (by omega) (by omega))⟩
  · have := eb_lenI hj
    exact k (2 + i) j (by omega) (by omega) (by omega) (by omega) (by omega)
  · rw [k 0 2 (by omega) (by omega) (by omega) (by omega) (by omega), k 272 14 (by omega) (by omega) (by omega) (by omega) (by omega)]
    exact h.1.2.2.2.2.2
theorem eb_I_seed (h : eb_I m) (p : Int32) : eb_I (ea_st (ea_st (ea_st m 2 6 p) 272 0 0) 273 12 p) := by
  have k : ∀ a i, ¬ (a = 2 ∧ i = 6) → ¬ (a = 272 ∧ i = 0) → ¬ (a = 273 ∧ i = 12) → ea_st (ea_st (ea_st m 2 6 p) 272 0 0) 273 12 p a i = m a i := fun a i q1 q2 q3 => by
    rw [eb_sts, if_neg q3, eb_sts, if_neg q2, eb_sts, if_neg q1]
  have w12 : ea_st (ea_st (ea_st m 2 6 p) 272 0 0) 273 12 p 273 12 = p := eb_st _ _ _ _
  have c06 : ea_st (ea_st (ea_st m 2 6 p) 272 0 0) 273 12 p 2 6 = p := by
    rw [eb_stA _ _ _ (by decide), eb_stA _ _ _ (by decide), eb_st]
  obtain ⟨m', em⟩ : ∃ m', m' = ea_st (ea_st (ea_st m 2 6 p) 272 0 0) 273 12 p := ⟨_, rfl⟩
  rw [← em] at k w12 c06 ⊢
  clear em
  have w' : ∀ j, j ≠ 12 → m' 273 j = m 273 j := fun j hj => k 273 j (by omega) (by omega) (by omega)
  have c' : ∀ i j, i < 14 → ¬ (i = 0 ∧ j = 6) → eb_ct m' 2 i j = eb_ct m 2 i j := fun i j hi hj => k (2 + i) j (by omega) (by omega) (by omega)
  obtain ⟨⟨a1, a2, a3, a4, a5, a6, a7, a8, a9, a10, a11, a12⟩, b, h3, h4, h5, h6, h7⟩ := h.1.1
  refine ⟨⟨⟨?_, ?_, eb_C3_cg (fun j _ => c' 1 j (by omega) (by omega)) (fun j _ _ => w' j (by omega)) h3, eb_C4_cg (fun i j _ _ _ => c' i j (by omega) (by omega)) (w' 0 (by decide)) (fun j _ _ => w' j (by omega)) b.1.2 h4, eb_C5_cg (fun j _ => c' 7 j (by omega) (by omega)) (w' 0 (by decide)) (fun j _ _ => w' j (by omega)) h5, eb_C6_cg (fun i j _ _ _ => c' i j (by omega) (by omega)) (w' 0 (by decide)) (w' 1 (by decide)) (w' 2 (by decide)) (fun j _ _ => w' j (by omega)) b.2.2.1.2 h6, eb_C7_cg (c' 12 1 (by omega) (by omega)) (fun j _ => c' 13 j (by omega) (by omega)) (w' 11 (by decide)) (fun j _ _ => w' j (by omega)) b.2.2.2.2.2.2.2.2.2.2 h7⟩, eb_LR_m (fun a i _ => k a i (by omega) (by omega) (by omega)) (w' 4 (by decide)) (fun j _ _ => w' j (by omega)) h.1.2.1, eb_pa_cg (fun a i _ => k a i (by omega) (by omega) (by omega)) h.1.2.2.1, eb_im_cg (fun a i _ => k a i (by omega) (by omega) (by omega)) h.1.2.2.2.1, ?_, ?_⟩, eb_fa_cg h (k _ _ (by omega) (by omega) (by omega)) (fun j hj => w' j (by have := eb_rel_hi hj; omega)) (w' 0 (by decide)) (fun a i _ _ => k _ _ (by omega) (by omega) (by omega))⟩
  · unfold eb_C1
    rw [show eb_ct m' 2 0 6 = p from c06, w12, c' 0 0 (by omega) (by omega), c' 0 1 (by omega) (by omega), c' 0 2 (by omega) (by omega), c' 0 3 (by omega) (by omega), c' 0 4 (by omega) (by omega), c' 0 5 (by omega) (by omega), c' 0 7 (by omega) (by omega), c' 0 8 (by omega) (by omega), c' 6 0 (by omega) (by omega), c' 6 1 (by omega) (by omega), c' 12 0 (by omega) (by omega), w' 0 (by decide), w' 1 (by decide), w' 2 (by decide), w' 3 (by decide), w' 5 (by decide), w' 6 (by decide), w' 7 (by decide), w' 8 (by decide), w' 9 (by decide), w' 10 (by decide), w' 11 (by decide)]
    exact ⟨a1, a2, a3, a4, a5, a6, rfl, a8, a9, a10, a11, a12⟩
  · unfold eb_C2
    rw [eb_b_cg (w' 0 (by decide)), eb_nc_cg (w' 1 (by decide)), eb_k_cg (w' 2 (by decide)), eb_sz_cg (w' 11 (by decide)), w' 0 (by decide), w' 1 (by decide), w' 2 (by decide), w' 3 (by decide), w' 5 (by decide), w' 6 (by decide), w' 7 (by decide), w' 8 (by decide), w' 9 (by decide), w' 10 (by decide), w' 11 (by decide)]
    exact b
  · obtain ⟨L, t1, t2, t3, t4⟩ := h.1.2.2.2.2.1
    refine ⟨L, t1, ?_, ?_, fun j hj => ?_⟩
    · rw [k 0 1 (by omega) (by omega) (by omega)]; exact t2
    · rw [k 272 9 (by omega) (by omega) (by omega)]; exact t3
    · rw [k 1 j (by omega) (by omega) (by omega), k 278 j (by omega) (by omega) (by omega)]; exact t4 j hj
  · rw [k 0 2 (by omega) (by omega) (by omega), k 272 14 (by omega) (by omega) (by omega)]
    exact h.1.2.2.2.2.2
/-- a loop of the reference that copies n slots of a row, from sp on, to another row's first -/
theorem eb_cpyL {step : Int32 × ea_M → Option ((Int32 × ea_M) ⊕ ea_M)} (n A B sp : Nat) (hn : n < 3000) (hAB : A ≠ B) (mm : ea_M)
    (hs : ∀ k ms, k < n → (∀ a, a ≠ B → ms a = mm a) → step (nI k, ms) = some (.inl (nI (k + 1), ea_st ms B k (ms A (sp + k))))) (he : ∀ ms, step (nI n, ms) = some (.inr ms)) :
    eb_W (ea_loop step ea_fuel (0, mm)) (fun z => (∀ a, a ≠ B → z a = mm a) ∧ ∀ i, z B i = if i < n then mm A (sp + i) else mm B i) := by
  refine eb_for n (fun k s => s.1 = nI k ∧ (∀ a, a ≠ B → s.2 a = mm a) ∧ ∀ i, s.2 B i = if i < k then mm A (sp + i) else mm B i) ?_ ?_ (by unfold ea_fuel; omega) ⟨rfl, fun _ _ => rfl, fun i => by rw [if_neg (by omega)]⟩
  · rintro k ⟨c, ms⟩ hk ⟨g1, g2, g3⟩
    have g1 : c = nI k := g1
    subst g1
    have g2 : ∀ a, a ≠ B → ms a = mm a := g2
    have g3 : ∀ i, ms B i = if i < k then mm A (sp + i) else mm B i := g3
    rw [hs k ms hk g2]
    refine eb_some ⟨rfl, fun a ha => ?_, fun i => ?_⟩
    · show ea_st ms B k (ms A (sp + k)) a = _
      rw [eb_stA _ _ _ ha]
      exact g2 a ha
    · show ea_st ms B k (ms A (sp + k)) B i = _
      rw [eb_sts, g3, g2 A hAB]
      by_cases q1 : i = k
      · rw [if_pos ⟨rfl, q1⟩, if_pos (by omega), q1]
      · rw [if_neg (fun z => q1 z.2)]
        by_cases q2 : i < k
        · rw [if_pos q2, if_pos (by omega)]
        · rw [if_neg q2, if_neg (by omega)]
  · rintro ⟨c, ms⟩ ⟨g1, g2, g3⟩
    have g1 : c = nI n := g1
    subst g1
    rw [he ms]
    exact eb_some ⟨g2, g3⟩
theorem eb_p_undo (h : eb_I m) : eb_P2 eb_I (f_X11_undo m) f_X12_undo := by
  obtain ⟨q, x, hq, hx, e13, e7, e14, hp⟩ := h.1.2.2.1
  by_cases h0 : q = 0
  · subst h0
    refine eb_P2q h (v := 0) (m1 := m) (m2 := ea_st m 272 0 0) ?_ ?_ (eb_E0 m)
    · unfold f_X11_undo
      rw [eb_bdR, e13, if_neg (by decide)]
    · unfold f_X12_undo
      rw [eb_bdR, eb_bdR, eb_stI _ _ _ (by decide), e7, if_pos (show nI 0 = 0 from rfl)]
  · obtain ⟨x', hx', ex'⟩ : ∃ x', x' < 12 ∧ x' = (x + 11) % 12 := ⟨_, by omega, rfl⟩
    obtain ⟨pC, p4⟩ := hp (q - 1) (by omega)
    rw [show (x + 12 - q + (q - 1)) % 12 = x' by omega] at pC
    unfold f_X11_undo
    refine eb_bdV e13 (eb_if (nI_lt (a := 0) (by omega) (by omega)) (eb_bdV e13 (eb_bd ?_)))
    rw [show nI q - 1 = nI (q - 1) from pk_sub (b := 1) (by omega)]
    refine eb_bdV (w := nI x) (by rw [eb_stI _ _ _ (by decide)]; exact e14) ?_
    rw [show nI x + 12 - 1 = nI (x + 11) by rw [show nI x + 12 = nI (x + 12) from nI_add x 12]; exact pk_sub (b := 1) (by omega)]
    refine eb_bd (eb_bdV (w := nI x') (by rw [ex']; exact pk_rem (d := 12) (by omega) (by decide) (by decide)) (eb_bd (eb_bdV (w := nI x') (eb_st _ _ _ _) (eb_g x' hx' (eb_bdV (w := 86 + 14 * x') (by rw [nI_clamp (by omega)]; exact eb_rCourt x' hx') ?_)))))
    refine eb_cl (eb_copy 2 (86 + 14 * x') (by omega) _) fun r1 z hz => ?_
    dsimp only at hz
    obtain ⟨z1, z2⟩ := hz
    rw [eb_forget, eb_clR]
    refine eb_some ?_
    -- the reference
    have u1 : ∀ a i, ¬ (2 ≤ a ∧ a < 16) → ¬ (a = 0 ∧ (i = 13 ∨ i = 14 ∨ i = 18)) → ea_st z 0 18 0 a i = m a i := fun a i q1 q2 => by
      rw [eb_sts, if_neg (by omega), z2 a (by omega), eb_sts, if_neg (by omega), eb_sts, if_neg (by omega)]
    have u2 : ∀ i j, j < eb_len i → ea_st z 0 18 0 (2 + i) j = m (86 + 14 * x' + i) j := fun i j hj => by
      rw [eb_stA _ _ _ (by omega), z1 i j hj, eb_stA _ _ _ (by omega), eb_stA _ _ _ (by omega)]
    have u13 : ea_st z 0 18 0 0 13 = nI (q - 1) := by
      rw [eb_stI _ _ _ (by decide), z2 0 (by omega), eb_stI _ _ _ (by decide), eb_st]
    have u14 : ea_st z 0 18 0 0 14 = nI x' := by
      rw [eb_stI _ _ _ (by decide), z2 0 (by omega), eb_st]
    have u18 : ea_st z 0 18 0 0 18 = 0 := eb_st _ _ _ _
    show eb_W (f_X12_undo (ea_st z 0 18 0)) _
    obtain ⟨m1, em1⟩ : ∃ m1, m1 = ea_st z 0 18 0 := ⟨_, rfl⟩
    rw [← em1] at u1 u2 u13 u14 u18 ⊢
    have v7 : m1 272 7 = nI q := by rw [u1 272 7 (by omega) (by omega)]; exact e7
    unfold f_X12_undo
    refine eb_bd (eb_bdV (w := nI q) (by rw [eb_stI _ _ _ (by decide)]; exact v7) (eb_else (nI_ne0 (by omega) (by omega)) (eb_bdV (w := nI q) (by rw [eb_stI _ _ _ (by decide)]; exact v7) (eb_bd ?_))))
    rw [show nI q - 1 = nI (q - 1) from pk_sub (b := 1) (by omega)]
    refine eb_bind (eb_cpyL 482 277 273 (482 * (q - 1)) (by decide) (by decide) (ea_st (ea_st m1 272 0 0) 272 7 (nI (q - 1))) (fun k ms hk hms => ?_) (fun ms => rfl)) fun y hy => ?_
    · have e1 : (482 : Int32) * nI (q - 1) + nI k = nI (482 * (q - 1) + k) := by
        show nI 482 * nI (q - 1) + nI k = _
        rw [pk_mul, nI_add]
      unfold f_X12_undo_s26
      rw [if_neg (show ¬ (482 : Int32) ≤ nI k from nI_ge (b := 482) hk (by decide))]
      dsimp only
      rw [hms 272 (by decide), eb_st, eb_bdR, eb_bdR, e1, eb_gN (by omega) (by decide), eb_bdR, eb_gN (by omega) (by decide), eb_bdR, nI_clamp (by omega), nI_clamp (by omega), nI_1]
    · obtain ⟨y1, y2⟩ := hy
      refine eb_some ⟨rfl, ?_⟩
      have k1 : ∀ a i, a ≠ 273 → ¬ (a = 272 ∧ (i = 0 ∨ i = 7)) → ¬ (2 ≤ a ∧ a < 16) → ¬ (a = 0 ∧ (i = 13 ∨ i = 14 ∨ i = 18)) → y a i = m a i := fun a i q1 q2 q3 q4 => by
        rw [y1 a q1, eb_sts, if_neg (by omega), eb_sts, if_neg (by omega)]
        exact u1 a i q3 q4
      have k2 : ∀ i, y 273 i = if i < 482 then m 277 (482 * (q - 1) + i) else m 273 i := fun i => by
        rw [y2 i, eb_stA _ _ _ (by decide), eb_stA _ _ _ (by decide), eb_stA _ _ _ (by decide), eb_stA _ _ _ (by decide), u1 277 _ (by omega) (by omega), u1 273 _ (by omega) (by omega)]
      have k3 : ∀ i j, j < eb_len i → y (2 + i) j = m (86 + 14 * x' + i) j := fun i j hj => by
        have := eb_lenI hj
        rw [y1 _ (by omega), eb_stA _ _ _ (by omega), eb_stA _ _ _ (by omega)]
        exact u2 i j hj
      have k4 : y 273 4 = m 273 4 := by
        rw [k2, if_pos (by decide)]
        exact p4
      show eb_I y
      refine eb_act h (eb_C_cg (c := eb_ct m (86 + 14 * x')) (w := eb_sl m (q - 1)) (fun i j hj => k3 i j hj) (fun j hj => by rw [k2, if_pos hj]; rfl) pC) ⟨q - 1, x', by omega, hx', ?_, ?_, ?_, fun j hj => ?_⟩ (fun a i hn => ?_) (Or.inl ?_)
      · rw [y1 0 (by decide), eb_stA _ _ _ (by decide), eb_stA _ _ _ (by decide)]; exact u13
      · rw [y1 272 (by decide), eb_st]
      · rw [y1 0 (by decide), eb_stA _ _ _ (by decide), eb_stA _ _ _ (by decide)]; exact u14
      · obtain ⟨r1, r2⟩ := hp j (by omega)
        rw [show (x' + 12 - (q - 1) + j) % 12 = (x + 12 - q + j) % 12 by omega, k4]
        refine ⟨eb_C_cg (fun i jj hjj => ?_) (fun i _ => k1 277 _ (by omega) (by omega) (by omega) (by omega)) r1, (k1 277 _ (by omega) (by omega) (by omega) (by omega)).trans r2⟩
        have := eb_lenI hjj
        exact k1 _ _ (by omega) (by omega) (by omega) (by omega)
      · unfold eb_NK at hn
        by_cases q3 : a = 273
        · subst q3
          by_cases q4 : i = 4
          · subst q4; exact k4
          · rw [k2, if_neg (by omega)]
        · exact k1 a i q3 (by omega) (by omega) (by omega)
      · rw [y1 0 (by decide), eb_stA _ _ _ (by decide), eb_stA _ _ _ (by decide)]; exact u18
end UNDO
