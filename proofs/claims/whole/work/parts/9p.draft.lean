section DRAFT
variable {c c' : Nat → Nat → Int32} {w w' : Nat → Int32}
theorem et_u {f : Nat → Int32} {k j : Nat} {x : Int32} (h : j ≠ k) : upd f k x j = f j := if_neg h
theorem et_us {f : Nat → Int32} {k : Nat} {x : Int32} : upd f k x k = x := if_pos rfl
/-- only the court's own numbers change -/
theorem et_C_hd (h : eb_C c w) (hc : ∀ i j, i < 14 → i ≠ 0 → c' i j = c i j) (h1 : eb_C1 c' w') (h2 : eb_C2 w') (w0 : w' 0 = w 0) (w1 : w' 1 = w 1) (w2 : w' 2 = w 2) (w11 : w' 11 = w 11) (hw : ∀ j, 13 ≤ j → j < 482 → w' j = w j) : eb_C c' w' := by
  obtain ⟨_, k2, h3, h4, h5, h6, h7⟩ := h
  exact ⟨h1, h2, eb_C3_cg (fun j _ => hc 1 j (by omega) (by decide)) (fun j q1 q2 => hw j q1 (by omega)) h3, eb_C4_cg (fun i j q1 q2 _ => hc i j (by omega) (by omega)) w0 (fun j q1 q2 => hw j (by omega) (by omega)) k2.1.2 h4, eb_C5_cg (fun j _ => hc 7 j (by omega) (by decide)) w0 (fun j q1 q2 => hw j (by omega) (by omega)) h5, eb_C6_cg (fun i j q1 q2 _ => hc i j (by omega) (by omega)) w0 w1 w2 (fun j q1 q2 => hw j (by omega) (by omega)) k2.2.2.1.2 h6, eb_C7_cg (hc 12 1 (by omega) (by decide)) (fun j _ => hc 13 j (by omega) (by decide)) w11 (fun j q1 q2 => hw j (by omega) (by omega)) k2.2.2.2.2.2.2.2.2.2.2 h7⟩
theorem et_C_tower {v u : Nat} (h : eb_C c w) (hv : v ≤ 15) (hu : 1 ≤ u) (hu2 : u ≤ 12) (hc : ∀ i j, i < 14 → ¬ (i = 0 ∧ j ≤ 1) → c' i j = c i j) (h0 : c' 0 0 = nI v) (h1 : c' 0 1 = nI u) : eb_C c' (upd (upd w 7 (nI v)) 8 (nI u)) := by
  have g : ∀ j, j ≠ 7 → j ≠ 8 → upd (upd w 7 (nI v)) 8 (nI u) j = w j := fun j q1 q2 => by rw [et_u q2, et_u q1]
  have g7 : upd (upd w 7 (nI v)) 8 (nI u) 7 = nI v := by rw [et_u (by decide), et_us]
  have g8 : upd (upd w 7 (nI v)) 8 (nI u) 8 = nI u := et_us
  refine et_C_hd h (fun i j h14 hi => hc i j h14 (by omega)) ?_ ?_ (g _ (by decide) (by decide)) (g _ (by decide) (by decide)) (g _ (by decide) (by decide)) (g _ (by decide) (by decide)) (fun j q1 _ => g j (by omega) (by omega))
  · obtain ⟨a0, a1, a2, a3, a4, a5, a6, a7, a8, a9, a10, a11⟩ := h.1
    unfold eb_C1
    rw [g7, g8, h0, h1, hc 0 2 (by omega) (by decide), hc 0 3 (by omega) (by decide), hc 0 4 (by omega) (by decide), hc 0 5 (by omega) (by decide), hc 0 6 (by omega) (by decide), hc 0 7 (by omega) (by decide), hc 0 8 (by omega) (by decide), hc 6 0 (by omega) (by decide), hc 6 1 (by omega) (by decide), hc 12 0 (by omega) (by decide), g 9 (by decide) (by decide), g 10 (by decide) (by decide), g 6 (by decide) (by decide), g 5 (by decide) (by decide), g 12 (by decide) (by decide), g 3 (by decide) (by decide), g 0 (by decide) (by decide), g 1 (by decide) (by decide), g 2 (by decide) (by decide), g 11 (by decide) (by decide)]
    exact ⟨rfl, rfl, a2, a3, a4, a5, a6, a7, a8, a9, a10, a11⟩
  · obtain ⟨b0, b1, b2, b3, b4, b5, b6, b7, b8, b9⟩ := h.2.1
    unfold eb_C2
    rw [eb_b_cg (g 0 (by decide) (by decide)), eb_nc_cg (g 1 (by decide) (by decide)), eb_k_cg (g 2 (by decide) (by decide)), eb_sz_cg (g 11 (by decide) (by decide)), g7, g8, g 9 (by decide) (by decide), g 10 (by decide) (by decide), g 6 (by decide) (by decide), g 5 (by decide) (by decide), g 3 (by decide) (by decide), g 0 (by decide) (by decide), g 1 (by decide) (by decide), g 2 (by decide) (by decide), g 11 (by decide) (by decide)]
    exact ⟨b0, b1, b2, b3, b4, b5, ⟨v, hv, rfl⟩, ⟨u, hu, hu2, rfl⟩, b8, b9⟩
theorem et_C_yard {v u : Nat} (h : eb_C c w) (hv : v ≤ u) (hu2 : u ≤ 15) (hc : ∀ i j, i < 14 → ¬ (i = 0 ∧ (j = 2 ∨ j = 3)) → c' i j = c i j) (h0 : c' 0 2 = nI v) (h1 : c' 0 3 = nI u) : eb_C c' (upd (upd w 9 (nI v)) 10 (nI u)) := by
  have g : ∀ j, j ≠ 9 → j ≠ 10 → upd (upd w 9 (nI v)) 10 (nI u) j = w j := fun j q1 q2 => by rw [et_u q2, et_u q1]
  have g7 : upd (upd w 9 (nI v)) 10 (nI u) 9 = nI v := by rw [et_u (by decide), et_us]
  have g8 : upd (upd w 9 (nI v)) 10 (nI u) 10 = nI u := et_us
  refine et_C_hd h (fun i j h14 hi => hc i j h14 (by omega)) ?_ ?_ (g _ (by decide) (by decide)) (g _ (by decide) (by decide)) (g _ (by decide) (by decide)) (g _ (by decide) (by decide)) (fun j q1 _ => g j (by omega) (by omega))
  · obtain ⟨a0, a1, a2, a3, a4, a5, a6, a7, a8, a9, a10, a11⟩ := h.1
    unfold eb_C1
    rw [g7, g8, h0, h1, hc 0 0 (by omega) (by decide), hc 0 1 (by omega) (by decide), hc 0 4 (by omega) (by decide), hc 0 5 (by omega) (by decide), hc 0 6 (by omega) (by decide), hc 0 7 (by omega) (by decide), hc 0 8 (by omega) (by decide), hc 6 0 (by omega) (by decide), hc 6 1 (by omega) (by decide), hc 12 0 (by omega) (by decide), g 7 (by decide) (by decide), g 8 (by decide) (by decide), g 6 (by decide) (by decide), g 5 (by decide) (by decide), g 12 (by decide) (by decide), g 3 (by decide) (by decide), g 0 (by decide) (by decide), g 1 (by decide) (by decide), g 2 (by decide) (by decide), g 11 (by decide) (by decide)]
    exact ⟨a0, a1, rfl, rfl, a4, a5, a6, a7, a8, a9, a10, a11⟩
  · obtain ⟨b0, b1, b2, b3, b4, b5, b6, b7, b8, b9⟩ := h.2.1
    unfold eb_C2
    rw [eb_b_cg (g 0 (by decide) (by decide)), eb_nc_cg (g 1 (by decide) (by decide)), eb_k_cg (g 2 (by decide) (by decide)), eb_sz_cg (g 11 (by decide) (by decide)), g7, g8, g 7 (by decide) (by decide), g 8 (by decide) (by decide), g 6 (by decide) (by decide), g 5 (by decide) (by decide), g 3 (by decide) (by decide), g 0 (by decide) (by decide), g 1 (by decide) (by decide), g 2 (by decide) (by decide), g 11 (by decide) (by decide)]
    exact ⟨b0, b1, b2, b3, b4, b5, b6, b7, ⟨v, u, hv, hu2, rfl, rfl⟩, b9⟩
theorem et_C_hour {v : Nat} (h : eb_C c w) (hv : v ≤ 23) (hc : ∀ i j, i < 14 → ¬ (i = 0 ∧ j = 4) → c' i j = c i j) (h0 : c' 0 4 = nI v) : eb_C c' (upd w 6 (nI v)) := by
  have g : ∀ j, j ≠ 6 → upd w 6 (nI v) j = w j := fun j q1 => et_u q1
  have g7 : upd w 6 (nI v) 6 = nI v := et_us
  refine et_C_hd h (fun i j h14 hi => hc i j h14 (by omega)) ?_ ?_ (g _ (by decide)) (g _ (by decide)) (g _ (by decide)) (g _ (by decide)) (fun j q1 _ => g j (by omega))
  · obtain ⟨a0, a1, a2, a3, a4, a5, a6, a7, a8, a9, a10, a11⟩ := h.1
    unfold eb_C1
    rw [g7, h0, hc 0 0 (by omega) (by decide), hc 0 1 (by omega) (by decide), hc 0 2 (by omega) (by decide), hc 0 3 (by omega) (by decide), hc 0 5 (by omega) (by decide), hc 0 6 (by omega) (by decide), hc 0 7 (by omega) (by decide), hc 0 8 (by omega) (by decide), hc 6 0 (by omega) (by decide), hc 6 1 (by omega) (by decide), hc 12 0 (by omega) (by decide), g 7 (by decide), g 8 (by decide), g 9 (by decide), g 10 (by decide), g 5 (by decide), g 12 (by decide), g 3 (by decide), g 0 (by decide), g 1 (by decide), g 2 (by decide), g 11 (by decide)]
    exact ⟨a0, a1, a2, a3, rfl, a5, a6, a7, a8, a9, a10, a11⟩
  · obtain ⟨b0, b1, b2, b3, b4, b5, b6, b7, b8, b9⟩ := h.2.1
    unfold eb_C2
    rw [eb_b_cg (g 0 (by decide)), eb_nc_cg (g 1 (by decide)), eb_k_cg (g 2 (by decide)), eb_sz_cg (g 11 (by decide)), g7, g 7 (by decide), g 8 (by decide), g 9 (by decide), g 10 (by decide), g 5 (by decide), g 3 (by decide), g 0 (by decide), g 1 (by decide), g 2 (by decide), g 11 (by decide)]
    exact ⟨b0, b1, b2, b3, b4, ⟨v, hv, rfl⟩, b6, b7, b8, b9⟩
theorem et_C_wind {l : Nat} {x : Int32} (h : eb_C c w) (hl : l < 13) (hc : ∀ i j, i < 14 → ¬ (i = 1 ∧ j = l) → c' i j = c i j) (h0 : c' 1 l = x) : eb_C c' (upd w (13 + l) x) := by
  have g : ∀ j, j ≠ 13 + l → upd w (13 + l) x j = w j := fun j q1 => et_u q1
  obtain ⟨h1, k2, h3, h4, h5, h6, h7⟩ := h
  refine ⟨eb_C1_cg (fun j => hc 0 j (by omega) (by omega)) (hc 6 0 (by omega) (by omega)) (hc 6 1 (by omega) (by omega)) (hc 12 0 (by omega) (by omega)) (fun j hj => g j (by omega)) h1, eb_C2_cg (fun j hj => g j (by omega)) k2, fun l' hl' => ?_, eb_C4_cg (fun i j q1 q2 _ => hc i j (by omega) (by omega)) (g 0 (by omega)) (fun j q1 q2 => g j (by omega)) k2.1.2 h4, eb_C5_cg (fun j _ => hc 7 j (by omega) (by omega)) (g 0 (by omega)) (fun j q1 q2 => g j (by omega)) h5, eb_C6_cg (fun i j q1 q2 _ => hc i j (by omega) (by omega)) (g 0 (by omega)) (g 1 (by omega)) (g 2 (by omega)) (fun j q1 q2 => g j (by omega)) k2.2.2.1.2 h6, eb_C7_cg (hc 12 1 (by omega) (by omega)) (fun j _ => hc 13 j (by omega) (by omega)) (g 11 (by omega)) (fun j q1 q2 => g j (by omega)) k2.2.2.2.2.2.2.2.2.2.2 h7⟩
  by_cases q : l' = l
  · rw [q, h0, et_us]
  · rw [hc 1 l' (by omega) (by omega), g _ (by omega)]
    exact h3 l' hl'
theorem et_C_bird {b : Nat} {x0 x1 x2 x3 : Int32} (h : eb_C c w) (hb : eb_b w = b) (hb6 : b < 6) (hx3 : eb_rg x3 5) (hc : ∀ i j, i < 14 → ¬ ((2 ≤ i ∧ i ≤ 5 ∧ j = b) ∨ (i = 0 ∧ j = 8)) → c' i j = c i j) (c2 : c' 2 b = x0) (c3 : c' 3 b = x1) (c4 : c' 4 b = x2) (c5 : c' 5 b = x3) (c8 : c' 0 8 = nI (b + 1))
    (hw : ∀ j, ¬ (26 + 4 * b ≤ j ∧ j < 30 + 4 * b) → j ≠ 0 → w' j = w j) (w0 : w' 0 = nI (b + 1)) (y0 : w' (26 + 4 * b) = x0) (y1 : w' (27 + 4 * b) = x1) (y2 : w' (28 + 4 * b) = x2) (y3 : w' (29 + 4 * b) = x3) : eb_C c' w' := by
  obtain ⟨h1, k2, h3, h4, h5, h6, h7⟩ := h
  have eb' : eb_b w' = b + 1 := by unfold eb_b; rw [w0]; exact nI_clamp (by omega)
  have e1 : eb_nc w' = eb_nc w := eb_nc_cg (hw 1 (by omega) (by decide))
  have e2 : eb_k w' = eb_k w := eb_k_cg (hw 2 (by omega) (by decide))
  have e3 : eb_sz w' = eb_sz w := eb_sz_cg (hw 11 (by omega) (by decide))
  refine ⟨?_, ?_, eb_C3_cg (fun j _ => hc 1 j (by omega) (by omega)) (fun j q1 q2 => hw j (by omega) (by omega)) h3, fun b' hb' => ?_, fun n b' hn hb' => ?_, fun k hk => ?_, eb_C7_cg (hc 12 1 (by omega) (by omega)) (fun j _ => hc 13 j (by omega) (by omega)) (hw 11 (by omega) (by decide)) (fun j q1 q2 => hw j (by omega) (by omega)) k2.2.2.2.2.2.2.2.2.2.2 h7⟩
  · obtain ⟨a0, a1, a2, a3, a4, a5, a6, a7, a8, a9, a10, a11⟩ := h1
    unfold eb_C1
    rw [c8, w0, hc 0 0 (by omega) (by omega), hc 0 1 (by omega) (by omega), hc 0 2 (by omega) (by omega), hc 0 3 (by omega) (by omega), hc 0 4 (by omega) (by omega), hc 0 5 (by omega) (by omega), hc 0 6 (by omega) (by omega), hc 0 7 (by omega) (by omega), hc 6 0 (by omega) (by omega), hc 6 1 (by omega) (by omega), hc 12 0 (by omega) (by omega), hw 7 (by omega) (by decide), hw 8 (by omega) (by decide), hw 9 (by omega) (by decide), hw 10 (by omega) (by decide), hw 6 (by omega) (by decide), hw 5 (by omega) (by decide), hw 12 (by omega) (by decide), hw 3 (by omega) (by decide), hw 1 (by omega) (by decide), hw 2 (by omega) (by decide), hw 11 (by omega) (by decide)]
    exact ⟨a0, a1, a2, a3, a4, a5, a6, a7, rfl, a9, a10, a11⟩
  · obtain ⟨b0, b1, b2, b3, b4, b5, b6, b7, b8, b9⟩ := k2
    unfold eb_C2
    rw [eb', e1, e2, e3, w0, hw 7 (by omega) (by decide), hw 8 (by omega) (by decide), hw 9 (by omega) (by decide), hw 10 (by omega) (by decide), hw 6 (by omega) (by decide), hw 5 (by omega) (by decide), hw 3 (by omega) (by decide), hw 1 (by omega) (by decide), hw 2 (by omega) (by decide), hw 11 (by omega) (by decide)]
    exact ⟨⟨rfl, by omega⟩, b1, b2, b3, b4, b5, b6, b7, b8, b9⟩
  · rw [eb'] at hb'
    by_cases q : b' = b
    · subst q
      rw [c2, c3, c4, c5, y0, y1, y2, y3]
      exact ⟨rfl, rfl, rfl, rfl, hx3⟩
    · rw [hc 2 b' (by omega) (by omega), hc 3 b' (by omega) (by omega), hc 4 b' (by omega) (by omega), hc 5 b' (by omega) (by omega), hw (26 + 4 * b') (by omega) (by omega), hw (27 + 4 * b') (by omega) (by omega), hw (28 + 4 * b') (by omega) (by omega), hw (29 + 4 * b') (by omega) (by omega)]
      exact h4 b' (by omega)
  · obtain ⟨g1, g2, g3⟩ := h5 n b' hn hb'
    rw [hc 7 _ (by omega) (by omega), hw (50 + 6 * n + b') (by omega) (by omega), eb']
    exact ⟨g1, g2, fun q => g3 (by omega)⟩
  · have hk12 := k2.2.2.1.2
    rw [e2] at hk
    obtain ⟨g1, g2, g3, g4, g5, ⟨p, p1, p2, p3⟩, g7⟩ := h6 k hk
    rw [hc 8 k (by omega) (by omega), hc 9 k (by omega) (by omega), hc 10 k (by omega) (by omega), hc 11 k (by omega) (by omega), hw (74 + 4 * k) (by omega) (by omega), hw (75 + 4 * k) (by omega) (by omega), hw (76 + 4 * k) (by omega) (by omega), hw (77 + 4 * k) (by omega) (by omega), e1, eb']
    refine ⟨g1, g2, g3, g4, g5, ⟨p, p1, ?_, p3⟩, g7⟩
    rw [hb] at p2
    exact Nat.lt_of_lt_of_le p2 (Nat.pow_le_pow_right (by decide) (by omega))
theorem et_C_counsel {n : Nat} (h : eb_C c w) (hn : eb_nc w = n) (hn4 : n < 4) (hc : ∀ i j, i < 14 → ¬ (i = 7 ∧ 6 * n ≤ j ∧ j < 6 * n + 6) → ¬ (i = 6 ∧ j = 0) → c' i j = c i j) (c0 : c' 6 0 = nI (n + 1))
    (hw : ∀ j, ¬ (50 + 6 * n ≤ j ∧ j < 56 + 6 * n) → j ≠ 1 → w' j = w j) (w1 : w' 1 = nI (n + 1)) (hs : ∀ b, b < 6 → c' 7 (6 * n + b) = w' (50 + 6 * n + b) ∧ eb_rg (w' (50 + 6 * n + b)) 99 ∧ (eb_b w ≤ b → w' (50 + 6 * n + b) = 0)) : eb_C c' w' := by
  obtain ⟨h1, k2, h3, h4, h5, h6, h7⟩ := h
  have eb' : eb_nc w' = n + 1 := by unfold eb_nc; rw [w1]; exact nI_clamp (by omega)
  have e1 : eb_b w' = eb_b w := eb_b_cg (hw 0 (by omega) (by decide))
  have e2 : eb_k w' = eb_k w := eb_k_cg (hw 2 (by omega) (by decide))
  have e3 : eb_sz w' = eb_sz w := eb_sz_cg (hw 11 (by omega) (by decide))
  refine ⟨?_, ?_, eb_C3_cg (fun j _ => hc 1 j (by omega) (by omega) (by omega)) (fun j q1 q2 => hw j (by omega) (by omega)) h3, eb_C4_cg (fun i j q1 q2 _ => hc i j (by omega) (by omega) (by omega)) (hw 0 (by omega) (by decide)) (fun j q1 q2 => hw j (by omega) (by omega)) k2.1.2 h4, fun n' b' hn' hb' => ?_, fun k hk => ?_, eb_C7_cg (hc 12 1 (by omega) (by omega) (by omega)) (fun j _ => hc 13 j (by omega) (by omega) (by omega)) (hw 11 (by omega) (by decide)) (fun j q1 q2 => hw j (by omega) (by omega)) k2.2.2.2.2.2.2.2.2.2.2 h7⟩
  · obtain ⟨a0, a1, a2, a3, a4, a5, a6, a7, a8, a9, a10, a11⟩ := h1
    unfold eb_C1
    rw [c0, w1, hc 0 0 (by omega) (by omega) (by omega), hc 0 1 (by omega) (by omega) (by omega), hc 0 2 (by omega) (by omega) (by omega), hc 0 3 (by omega) (by omega) (by omega), hc 0 4 (by omega) (by omega) (by omega), hc 0 5 (by omega) (by omega) (by omega), hc 0 6 (by omega) (by omega) (by omega), hc 0 7 (by omega) (by omega) (by omega), hc 0 8 (by omega) (by omega) (by omega), hc 6 1 (by omega) (by omega) (by omega), hc 12 0 (by omega) (by omega) (by omega), hw 7 (by omega) (by decide), hw 8 (by omega) (by decide), hw 9 (by omega) (by decide), hw 10 (by omega) (by decide), hw 6 (by omega) (by decide), hw 5 (by omega) (by decide), hw 12 (by omega) (by decide), hw 3 (by omega) (by decide), hw 0 (by omega) (by decide), hw 2 (by omega) (by decide), hw 11 (by omega) (by decide)]
    exact ⟨a0, a1, a2, a3, a4, a5, a6, a7, a8, rfl, a10, a11⟩
  · obtain ⟨b0, b1, b2, b3, b4, b5, b6, b7, b8, b9⟩ := k2
    unfold eb_C2
    rw [eb', e1, e2, e3, w1, hw 7 (by omega) (by decide), hw 8 (by omega) (by decide), hw 9 (by omega) (by decide), hw 10 (by omega) (by decide), hw 6 (by omega) (by decide), hw 5 (by omega) (by decide), hw 3 (by omega) (by decide), hw 0 (by omega) (by decide), hw 2 (by omega) (by decide), hw 11 (by omega) (by decide)]
    exact ⟨b0, ⟨rfl, by omega⟩, b2, b3, b4, b5, b6, b7, b8, b9⟩
  · rw [e1]
    by_cases q : n' = n
    · subst q
      exact hs b' hb'
    · rw [hc 7 _ (by omega) (by omega) (by omega), hw (50 + 6 * n' + b') (by omega) (by omega)]
      exact h5 n' b' hn' hb'
  · have hk12 := k2.2.2.1.2
    rw [e2] at hk
    obtain ⟨g1, g2, g3, g4, ⟨f, s, f1, f2, f3⟩, g6, g7⟩ := h6 k hk
    rw [hc 8 k (by omega) (by omega) (by omega), hc 9 k (by omega) (by omega) (by omega), hc 10 k (by omega) (by omega) (by omega), hc 11 k (by omega) (by omega) (by omega), hw (74 + 4 * k) (by omega) (by omega), hw (75 + 4 * k) (by omega) (by omega), hw (76 + 4 * k) (by omega) (by omega), hw (77 + 4 * k) (by omega) (by omega), e1, eb']
    exact ⟨g1, g2, g3, g4, ⟨f, s, by omega, by omega, f3⟩, g6, g7⟩
theorem et_C_case {k f s p : Nat} (h : eb_C c w) (hk : eb_k w = k) (hk12 : k < 12) (hf : f < eb_nc w) (hs : s < eb_nc w) (hfs : f ≠ s) (hp : 0 < p) (hp2 : p < 2 ^ eb_b w) (hc : ∀ i j, i < 14 → ¬ (8 ≤ i ∧ i ≤ 11 ∧ j = k) → ¬ (i = 6 ∧ j = 1) → c' i j = c i j) (c0 : c' 6 1 = nI (k + 1)) (c8 : c' 8 k = nI f) (c9 : c' 9 k = nI s) (c10 : c' 10 k = nI p) (c11 : c' 11 k = 0)
    (hw : ∀ j, ¬ (74 + 4 * k ≤ j ∧ j < 78 + 4 * k) → j ≠ 2 → w' j = w j) (w2 : w' 2 = nI (k + 1)) (y0 : w' (74 + 4 * k) = nI f) (y1 : w' (75 + 4 * k) = nI s) (y2 : w' (76 + 4 * k) = nI p) (y3 : w' (77 + 4 * k) = 0) : eb_C c' w' := by
  obtain ⟨h1, k2, h3, h4, h5, h6, h7⟩ := h
  have eb' : eb_k w' = k + 1 := by unfold eb_k; rw [w2]; exact nI_clamp (by omega)
  have e1 : eb_b w' = eb_b w := eb_b_cg (hw 0 (by omega) (by decide))
  have e2 : eb_nc w' = eb_nc w := eb_nc_cg (hw 1 (by omega) (by decide))
  have e3 : eb_sz w' = eb_sz w := eb_sz_cg (hw 11 (by omega) (by decide))
  refine ⟨?_, ?_, eb_C3_cg (fun j _ => hc 1 j (by omega) (by omega) (by omega)) (fun j q1 q2 => hw j (by omega) (by omega)) h3, eb_C4_cg (fun i j q1 q2 _ => hc i j (by omega) (by omega) (by omega)) (hw 0 (by omega) (by decide)) (fun j q1 q2 => hw j (by omega) (by omega)) k2.1.2 h4, eb_C5_cg (fun j _ => hc 7 j (by omega) (by omega) (by omega)) (hw 0 (by omega) (by decide)) (fun j q1 q2 => hw j (by omega) (by omega)) h5, fun k' hk' => ?_, eb_C7_cg (hc 12 1 (by omega) (by omega) (by omega)) (fun j _ => hc 13 j (by omega) (by omega) (by omega)) (hw 11 (by omega) (by decide)) (fun j q1 q2 => hw j (by omega) (by omega)) k2.2.2.2.2.2.2.2.2.2.2 h7⟩
  · obtain ⟨a0, a1, a2, a3, a4, a5, a6, a7, a8, a9, a10, a11⟩ := h1
    unfold eb_C1
    rw [c0, w2, hc 0 0 (by omega) (by omega) (by omega), hc 0 1 (by omega) (by omega) (by omega), hc 0 2 (by omega) (by omega) (by omega), hc 0 3 (by omega) (by omega) (by omega), hc 0 4 (by omega) (by omega) (by omega), hc 0 5 (by omega) (by omega) (by omega), hc 0 6 (by omega) (by omega) (by omega), hc 0 7 (by omega) (by omega) (by omega), hc 0 8 (by omega) (by omega) (by omega), hc 6 0 (by omega) (by omega) (by omega), hc 12 0 (by omega) (by omega) (by omega), hw 7 (by omega) (by decide), hw 8 (by omega) (by decide), hw 9 (by omega) (by decide), hw 10 (by omega) (by decide), hw 6 (by omega) (by decide), hw 5 (by omega) (by decide), hw 12 (by omega) (by decide), hw 3 (by omega) (by decide), hw 0 (by omega) (by decide), hw 1 (by omega) (by decide), hw 11 (by omega) (by decide)]
    exact ⟨a0, a1, a2, a3, a4, a5, a6, a7, a8, a9, rfl, a11⟩
  · obtain ⟨b0, b1, b2, b3, b4, b5, b6, b7, b8, b9⟩ := k2
    unfold eb_C2
    rw [eb', e1, e2, e3, w2, hw 7 (by omega) (by decide), hw 8 (by omega) (by decide), hw 9 (by omega) (by decide), hw 10 (by omega) (by decide), hw 6 (by omega) (by decide), hw 5 (by omega) (by decide), hw 3 (by omega) (by decide), hw 0 (by omega) (by decide), hw 1 (by omega) (by decide), hw 11 (by omega) (by decide)]
    exact ⟨b0, b1, ⟨rfl, by omega⟩, b3, b4, b5, b6, b7, b8, b9⟩
  · rw [eb'] at hk'
    rw [e1, e2]
    by_cases q : k' = k
    · subst q
      rw [c8, c9, c10, c11, y0, y1, y2, y3]
      exact ⟨rfl, rfl, rfl, rfl, ⟨f, s, hf, hs, hfs, rfl, rfl⟩, ⟨p, hp, hp2, rfl⟩, ⟨0, by decide, rfl⟩⟩
    · rw [hc 8 k' (by omega) (by omega) (by omega), hc 9 k' (by omega) (by omega) (by omega), hc 10 k' (by omega) (by omega) (by omega), hc 11 k' (by omega) (by omega) (by omega), hw (74 + 4 * k') (by omega) (by omega), hw (75 + 4 * k') (by omega) (by omega), hw (76 + 4 * k') (by omega) (by omega), hw (77 + 4 * k') (by omega) (by omega)]
      exact h6 k' (by omega)
end DRAFT
