section CALL
variable {m mm : ea_M} {w : Nat → Int32}
theorem eb_openJ {t z : Nat} (p q : Int32) (ht : t < 60) (hz : z ≤ 60) (e1 : m 14 1 = nI t) (e0 : m 14 0 = nI z) : f_X6_open 14 p q m = some (0, ea_st (ea_st (ea_st (ea_st m 14 1 (nI ((t + 1) % 60))) 14 0 (nI (min 60 (z + 1)))) 15 ((t + 1) % 60 * 6 + 0) p) 15 ((t + 1) % 60 * 6 + 1) q) := by
  have a1 : nI t + 1 - (nI t + 1) / 60 * 60 = nI ((t + 1) % 60) := by
    rw [nI_1]
    exact pk_rem (d := 60) (by omega) (by decide) (by decide)
  have a2 : ea_min 60 (nI z + 1) = nI (min 60 (z + 1)) := by
    rw [nI_1]
    exact eb_minN (a := 60) (by decide) (by omega)
  have a3 : nI ((t + 1) % 60) * 6 + 0 = nI ((t + 1) % 60 * 6 + 0) := by
    show nI _ * nI 6 + nI 0 = _
    rw [pk_mul, nI_add]
  have a4 : nI ((t + 1) % 60) * 6 + 1 = nI ((t + 1) % 60 * 6 + 1) := by
    show nI _ * nI 6 + nI 1 = _
    rw [pk_mul, nI_add]
  unfold f_X6_open
  rw [e1, eb_bdR, a1, eb_bdR, eb_bdR, eb_stI _ _ _ (by decide), e0, eb_bdR, a2, eb_bdR, eb_bdR, eb_stI _ _ _ (by decide), eb_st, eb_bdR, a3, eb_bdR, eb_gN (by omega) (by decide), eb_bdR, nI_clamp (by omega), eb_stA _ _ _ (by decide), eb_stI _ _ _ (by decide), eb_st, eb_bdR, a4, eb_bdR, eb_gN (by omega) (by decide), eb_bdR, nI_clamp (by omega)]
theorem eb_writeJ {t : Nat} (p1 p2 p3 p4 : Int32) (ht : t < 60) (e1 : m 14 1 = nI t) : f_X6_write 14 p1 p2 p3 p4 m = some (0, ea_st (ea_st (ea_st (ea_st m 15 (t * 6 + 2) p1) 15 (t * 6 + 3) p2) 15 (t * 6 + 4) p3) 15 (t * 6 + 5) p4) := by
  have a : ∀ (x : Nat) (y : Int32), y = nI x → nI t * 6 + y = nI (t * 6 + x) := fun x y hy => by
    rw [hy]
    show nI _ * nI 6 + nI x = _
    rw [pk_mul, nI_add]
  unfold f_X6_write
  rw [e1, eb_bdR, a 2 2 rfl, eb_bdR, eb_gN (by omega) (by decide), eb_bdR, nI_clamp (by omega), eb_stA _ _ _ (by decide), e1, eb_bdR, a 3 3 rfl, eb_bdR, eb_gN (by omega) (by decide), eb_bdR, nI_clamp (by omega), eb_stA _ _ _ (by decide), eb_stA _ _ _ (by decide), e1, eb_bdR, a 4 4 rfl, eb_bdR, eb_gN (by omega) (by decide), eb_bdR, nI_clamp (by omega), eb_stA _ _ _ (by decide), eb_stA _ _ _ (by decide), eb_stA _ _ _ (by decide), e1, eb_bdR, a 5 5 rfl, eb_bdR, eb_gN (by omega) (by decide), eb_bdR, nI_clamp (by omega)]
/-- the reference moves its log down by a row -/
theorem eb_shiftM (p1 p2 p3 p4 : Int32) (m : ea_M) : eb_W (ea_loop (f_X12_tells_s5 p1 p2 p3 p4) ea_fuel (359, m)) (fun z => (∀ r, r ≠ 273 → z r = m r) ∧ ∀ i, z 273 i = if 128 ≤ i ∧ i < 482 then m 273 (i - 6) else m 273 i) := by
  refine eb_for 354 (fun k t => t.1 = nI (359 - k) ∧ (∀ r, r ≠ 273 → t.2 r = m r) ∧ ∀ i, t.2 273 i = if 482 - k ≤ i ∧ i < 482 then m 273 (i - 6) else m 273 i) ?_ ?_ (by decide) ⟨rfl, fun _ _ => rfl, fun i => by rw [if_neg (by omega)]⟩
  · rintro k ⟨t1, mm⟩ hk ⟨g1, g2, g3⟩
    have g1 : t1 = nI (359 - k) := g1
    subst g1
    have g2 : ∀ r, r ≠ 273 → mm r = m r := g2
    have g3 : ∀ i, mm 273 i = if 482 - k ≤ i ∧ i < 482 then m 273 (i - 6) else m 273 i := g3
    have a1 : (122 : Int32) + nI (359 - k) = nI (481 - k) := by
      show nI 122 + nI (359 - k) = _
      rw [nI_add, show 122 + (359 - k) = 481 - k by omega]
    have a2 : nI (481 - k) - 6 = nI (475 - k) := by
      rw [show (6 : Int32) = nI 6 from rfl, pk_sub (by omega), show 481 - k - 6 = 475 - k by omega]
    have a3 : nI (359 - k) + -1 = nI (359 - (k + 1)) := by
      rw [show 359 - k = 359 - (k + 1) + 1 by omega]
      exact pk_m1 _
    unfold f_X12_tells_s5
    dsimp only
    rw [if_neg (show ¬ nI (359 - k) < 6 from nI_nlt (b := 6) (by omega) (by omega)), a1, a2, eb_bdR, eb_gN (by omega) (by decide), eb_bdR, eb_gN (by omega) (by decide), eb_bdR, nI_clamp (by omega), nI_clamp (by omega), a3]
    refine eb_some ⟨rfl, fun r hr => ?_, fun i => ?_⟩
    · show ea_st mm 273 _ _ r = _
      rw [eb_stA _ _ _ hr]
      exact g2 r hr
    · show ea_st mm 273 (481 - k) (mm 273 (475 - k)) 273 i = _
      rw [eb_sts]
      by_cases q : i = 481 - k
      · rw [if_pos ⟨rfl, q⟩, if_pos (by omega), g3, if_neg (by omega), q, show 481 - k - 6 = 475 - k by omega]
      · rw [if_neg (fun z => q z.2), g3]
        by_cases q2 : 482 - k ≤ i ∧ i < 482
        · rw [if_pos q2, if_pos (by omega)]
        · rw [if_neg q2, if_neg (by omega)]
  · rintro ⟨t1, mm⟩ ⟨g1, g2, g3⟩
    have g1 : t1 = nI 5 := g1
    subst g1
    unfold f_X12_tells_s5
    rw [if_pos (show nI 5 < 6 by decide)]
    exact eb_some ⟨g2, g3⟩
/-- one row of the log -/
def eb_row (a b c d e f : Int32) (x : Nat) : Int32 := if x = 0 then a else if x = 1 then b else if x = 2 then c else if x = 3 then d else if x = 4 then e else f
def eb_wc (w0 w1 : Nat → Int32) (R : Nat → Int32) (z k : Nat) (E S : Int32) : Nat → Int32 := fun j => if 122 ≤ j ∧ j < 128 then R (j - 122) else if 128 ≤ j ∧ j < 482 then w0 (j - 6) else if j = 11 then nI z else if j = 77 + 4 * k then E else if j = 12 then S else w1 j
def eb_cc (c1 : Nat → Nat → Int32) (R : Nat → Int32) (t z k : Nat) (E S : Int32) : Nat → Nat → Int32 := fun i j => if i = 13 ∧ t * 6 ≤ j ∧ j < t * 6 + 6 then R (j - t * 6) else if i = 12 ∧ j = 0 then nI z else if i = 12 ∧ j = 1 then nI t else if i = 11 ∧ j = k then E else if i = 0 ∧ j = 6 then S else c1 i j
theorem eb_goodFirstE {a b : Int32} (h1 : m 284 3 = a) (h2 : m 284 7 = b) : f_X12_goodFirst m = some (eb_gf a b, m) := by
  unfold f_X12_goodFirst
  rw [show f_X12_goodIn 0 m = f_X12_goodIn (nI 0) m from rfl, eb_goodInE (by decide), eb_clR, show f_X12_goodIn 1 m = f_X12_goodIn (nI 1) m from rfl, eb_goodInE (by decide), eb_clR, show m 284 (4 * 0 + 3) = a from h1, show m 284 (4 * 1 + 3) = b from h2]
  unfold eb_gf
  by_cases q1 : a = 0
  · rw [if_pos q1, if_pos q1]
  · rw [if_neg q1, if_neg q1]
    by_cases q2 : b = 0
    · rw [if_pos q2, if_pos q2]
    · rw [if_neg q2, if_neg q2]; rfl
/-- the reference tells a call -/
theorem eb_tellsM {z : Nat} {a b x1 x2 x3 x4 wk : Int32} (hz : z ≤ 60) (e11 : m 273 11 = nI z) (e5 : m 273 5 = wk) (h1 : m 284 3 = a) (h2 : m 284 7 = b) : eb_W (f_X12_tells x1 x2 x3 x4 m) (fun y => (∀ r, r ≠ 273 → y.2 r = m r) ∧ ∀ i, y.2 273 i = if 122 ≤ i ∧ i < 128 then eb_row wk x1 x2 x3 x4 (eb_gf a b) (i - 122) else if 128 ≤ i ∧ i < 482 then m 273 (i - 6) else if i = 11 then nI (min 60 (z + 1)) else m 273 i) := by
  unfold f_X12_tells
  refine eb_bind (eb_shiftM x1 x2 x3 x4 m) fun s hs => ?_
  obtain ⟨s1, s2⟩ := hs
  refine eb_bdV (w := wk) (by rw [s2, if_neg (by omega)]; exact e5) (eb_bdE fun m5 e5' => eb_bdE fun m6 e6 => eb_bdE fun m7 e7 => eb_bdE fun m8 e8 => eb_bdE fun m9 e9 => ?_)
  have r9 : ∀ r, r ≠ 273 → m9 r = m r := fun r hr => by rw [e9, eb_stA _ _ _ hr, e8, eb_stA _ _ _ hr, e7, eb_stA _ _ _ hr, e6, eb_stA _ _ _ hr, e5', eb_stA _ _ _ hr, s1 r hr]
  rw [eb_goodFirstE (m := m9) (a := a) (b := b) (by rw [r9 284 (by decide)]; exact h1) (by rw [r9 284 (by decide)]; exact h2), eb_clR]
  refine eb_bdE fun m12 e12 => eb_bdV (w := nI z) (by rw [e12, eb_stI _ _ _ (by decide), e9, eb_stI _ _ _ (by decide), e8, eb_stI _ _ _ (by decide), e7, eb_stI _ _ _ (by decide), e6, eb_stI _ _ _ (by decide), e5', eb_stI _ _ _ (by decide), s2, if_neg (by omega)]; exact e11) (eb_bdV (w := nI (min 60 (z + 1))) (by rw [nI_1]; exact eb_minN (a := 60) (by decide) (by omega)) (eb_bdE fun m15 e15 => eb_some ⟨fun r hr => ?_, fun i => ?_⟩))
  · show m15 r = _
    rw [e15, eb_stA _ _ _ hr, e12, eb_stA _ _ _ hr, r9 r hr]
  · show m15 273 i = _
    by_cases q1 : 122 ≤ i ∧ i < 128
    · rw [if_pos q1]
      obtain rfl | rfl | rfl | rfl | rfl | rfl : i = 122 ∨ i = 123 ∨ i = 124 ∨ i = 125 ∨ i = 126 ∨ i = 127 := by omega
      · rw [e15, eb_stI _ _ _ (by decide), e12, eb_stI _ _ _ (by decide), e9, eb_stI _ _ _ (by decide), e8, eb_stI _ _ _ (by decide), e7, eb_stI _ _ _ (by decide), e6, eb_stI _ _ _ (by decide), e5', eb_st]; rfl
      · rw [e15, eb_stI _ _ _ (by decide), e12, eb_stI _ _ _ (by decide), e9, eb_stI _ _ _ (by decide), e8, eb_stI _ _ _ (by decide), e7, eb_stI _ _ _ (by decide), e6, eb_st]; rfl
      · rw [e15, eb_stI _ _ _ (by decide), e12, eb_stI _ _ _ (by decide), e9, eb_stI _ _ _ (by decide), e8, eb_stI _ _ _ (by decide), e7, eb_st]; rfl
      · rw [e15, eb_stI _ _ _ (by decide), e12, eb_stI _ _ _ (by decide), e9, eb_stI _ _ _ (by decide), e8, eb_st]; rfl
      · rw [e15, eb_stI _ _ _ (by decide), e12, eb_stI _ _ _ (by decide), e9, eb_st]; rfl
      · rw [e15, eb_stI _ _ _ (by decide), e12, eb_st]; rfl
    · rw [if_neg q1]
      by_cases q2 : i = 11
      · subst q2
        rw [if_neg (by omega), if_pos rfl, e15, eb_st]
      · rw [e15, eb_stI _ _ _ q2, e12, eb_stI _ _ _ (by omega), e9, eb_stI _ _ _ (by omega), e8, eb_stI _ _ _ (by omega), e7, eb_stI _ _ _ (by omega), e6, eb_stI _ _ _ (by omega), e5', eb_stI _ _ _ (by omega), s2]
        by_cases q3 : 128 ≤ i ∧ i < 482
        · rw [if_pos q3, if_pos q3]
        · rw [if_neg q3, if_neg q3, if_neg q2]
theorem eb_enR (a b : Int32) : eb_rg (eb_en a b) 4 := by
  unfold eb_en
  by_cases q1 : a = 0 ∧ b = 0
  · rw [if_pos q1]; exact ⟨4, by decide, rfl⟩
  · rw [if_neg q1]
    by_cases q2 : a = b
    · rw [if_pos q2]; exact ⟨3, by decide, rfl⟩
    · rw [if_neg q2]
      by_cases q3 : b = 0 ∨ (0 < a ∧ a < b)
      · rw [if_pos q3]; exact ⟨1, by decide, rfl⟩
      · rw [if_neg q3]; exact ⟨2, by decide, rfl⟩
/-- court and world after a call are alike -/
theorem eb_C_call {c1 : Nat → Nat → Int32} {w0 w1 : Nat → Int32} {t z k : Nat} {E S : Int32} {R : Nat → Int32} (h : eb_C c1 w1) (hk : k < eb_k w1) (h0 : ∀ j, 74 ≤ j → w0 j = w1 j) (ht : t < 60) (et : c1 12 1 = nI t) (ez : w1 11 = nI z) (hz : z ≤ 60) (hl : ∀ g x, g < z → x < 6 → c1 13 ((t + 60 - g) % 60 * 6 + x) = w1 (122 + 6 * g + x)) (hE : eb_rg E 4) : eb_C (eb_cc c1 R ((t + 1) % 60) (min 60 (z + 1)) k E S) (eb_wc w0 w1 R (min 60 (z + 1)) k E S) := by
  obtain ⟨⟨a1, a2, a3, a4, a5, a6, a7, a8, a9, a10, a11, a12⟩, ⟨b1, b2, b3, b4, b5, b6, b7, b8, b9, b10, b11⟩, h3, h4, h5, h6, h7⟩ := h
  have w' : ∀ j, j < 122 → j ≠ 11 → j ≠ 12 → j ≠ 77 + 4 * k → eb_wc w0 w1 R (min 60 (z + 1)) k E S j = w1 j := fun j q1 q2 q3 q4 => by
    unfold eb_wc
    rw [if_neg (by omega), if_neg (by omega), if_neg q2, if_neg q4, if_neg q3]
  have hk12 : k < 12 := by omega
  have w11 : eb_wc w0 w1 R (min 60 (z + 1)) k E S 11 = nI (min 60 (z + 1)) := by
    unfold eb_wc
    rw [if_neg (by omega), if_neg (by omega), if_pos rfl]
  have w12 : eb_wc w0 w1 R (min 60 (z + 1)) k E S 12 = S := by
    unfold eb_wc
    rw [if_neg (by omega), if_neg (by omega), if_neg (by omega), if_neg (by omega), if_pos rfl]
  have wE : eb_wc w0 w1 R (min 60 (z + 1)) k E S (77 + 4 * k) = E := by
    unfold eb_wc
    rw [if_neg (by omega), if_neg (by omega), if_neg (by omega), if_pos rfl]
  have c' : ∀ i j, i ≠ 13 → i ≠ 12 → ¬ (i = 11 ∧ j = k) → ¬ (i = 0 ∧ j = 6) → eb_cc c1 R ((t + 1) % 60) (min 60 (z + 1)) k E S i j = c1 i j := fun i j q1 q2 q3 q4 => by
    unfold eb_cc
    rw [if_neg (by omega), if_neg (by omega), if_neg (by omega), if_neg q3, if_neg q4]
  have c06 : eb_cc c1 R ((t + 1) % 60) (min 60 (z + 1)) k E S 0 6 = S := by
    unfold eb_cc
    rw [if_neg (by omega), if_neg (by omega), if_neg (by omega), if_neg (by omega), if_pos ⟨rfl, rfl⟩]
  have c120 : eb_cc c1 R ((t + 1) % 60) (min 60 (z + 1)) k E S 12 0 = nI (min 60 (z + 1)) := by
    unfold eb_cc
    rw [if_neg (by omega), if_pos ⟨rfl, rfl⟩]
  have c121 : eb_cc c1 R ((t + 1) % 60) (min 60 (z + 1)) k E S 12 1 = nI ((t + 1) % 60) := by
    unfold eb_cc
    rw [if_neg (by omega), if_neg (by omega), if_pos ⟨rfl, rfl⟩]
  have c11 : eb_cc c1 R ((t + 1) % 60) (min 60 (z + 1)) k E S 11 k = E := by
    unfold eb_cc
    rw [if_neg (by omega), if_neg (by omega), if_neg (by omega), if_pos ⟨rfl, rfl⟩]
  have esz : eb_sz (eb_wc w0 w1 R (min 60 (z + 1)) k E S) = min 60 (z + 1) := by
    unfold eb_sz
    rw [w11]
    exact nI_clamp (by omega)
  refine ⟨?_, ?_, eb_C3_cg (fun j _ => c' 1 j (by omega) (by omega) (by omega) (by omega)) (fun j _ _ => w' j (by omega) (by omega) (by omega) (by omega)) h3, eb_C4_cg (fun i j _ _ _ => c' i j (by omega) (by omega) (by omega) (by omega)) (w' 0 (by omega) (by omega) (by omega) (by omega)) (fun j _ _ => w' j (by omega) (by omega) (by omega) (by omega)) b1.2 h4, eb_C5_cg (fun j _ => c' 7 j (by omega) (by omega) (by omega) (by omega)) (w' 0 (by omega) (by omega) (by omega) (by omega)) (fun j _ _ => w' j (by omega) (by omega) (by omega) (by omega)) h5, fun j hj => ?_, ⟨(t + 1) % 60, by omega, c121, fun g x hg hx => ?_⟩⟩
  · unfold eb_C1
    rw [c06, w12, c120, w11, c' 0 0 (by omega) (by omega) (by omega) (by omega), c' 0 1 (by omega) (by omega) (by omega) (by omega), c' 0 2 (by omega) (by omega) (by omega) (by omega), c' 0 3 (by omega) (by omega) (by omega) (by omega), c' 0 4 (by omega) (by omega) (by omega) (by omega), c' 0 5 (by omega) (by omega) (by omega) (by omega), c' 0 7 (by omega) (by omega) (by omega) (by omega), c' 0 8 (by omega) (by omega) (by omega) (by omega), c' 6 0 (by omega) (by omega) (by omega) (by omega), c' 6 1 (by omega) (by omega) (by omega) (by omega), w' 0 (by omega) (by omega) (by omega) (by omega), w' 1 (by omega) (by omega) (by omega) (by omega), w' 2 (by omega) (by omega) (by omega) (by omega), w' 3 (by omega) (by omega) (by omega) (by omega), w' 5 (by omega) (by omega) (by omega) (by omega), w' 6 (by omega) (by omega) (by omega) (by omega), w' 7 (by omega) (by omega) (by omega) (by omega), w' 8 (by omega) (by omega) (by omega) (by omega), w' 9 (by omega) (by omega) (by omega) (by omega), w' 10 (by omega) (by omega) (by omega) (by omega)]
    exact ⟨a1, a2, a3, a4, a5, a6, rfl, a8, a9, a10, a11, rfl⟩
  · unfold eb_C2
    rw [eb_b_cg (w' 0 (by omega) (by omega) (by omega) (by omega)), eb_nc_cg (w' 1 (by omega) (by omega) (by omega) (by omega)), eb_k_cg (w' 2 (by omega) (by omega) (by omega) (by omega)), esz, w11, w' 0 (by omega) (by omega) (by omega) (by omega), w' 1 (by omega) (by omega) (by omega) (by omega), w' 2 (by omega) (by omega) (by omega) (by omega), w' 3 (by omega) (by omega) (by omega) (by omega), w' 5 (by omega) (by omega) (by omega) (by omega), w' 6 (by omega) (by omega) (by omega) (by omega), w' 7 (by omega) (by omega) (by omega) (by omega), w' 8 (by omega) (by omega) (by omega) (by omega), w' 9 (by omega) (by omega) (by omega) (by omega), w' 10 (by omega) (by omega) (by omega) (by omega)]
    exact ⟨b1, b2, b3, b4, b5, b6, b7, b8, b9, rfl, by omega⟩
  · rw [eb_k_cg (w' 2 (by omega) (by omega) (by omega) (by omega))] at hj
    obtain ⟨d1, d2, d3, d4, d5, d6, d7⟩ := h6 j hj
    have hj12 : j < 12 := by omega
    rw [eb_b_cg (w' 0 (by omega) (by omega) (by omega) (by omega)), eb_nc_cg (w' 1 (by omega) (by omega) (by omega) (by omega)), c' 8 j (by omega) (by omega) (by omega) (by omega), c' 9 j (by omega) (by omega) (by omega) (by omega), c' 10 j (by omega) (by omega) (by omega) (by omega), w' (74 + 4 * j) (by omega) (by omega) (by omega) (by omega), w' (75 + 4 * j) (by omega) (by omega) (by omega) (by omega), w' (76 + 4 * j) (by omega) (by omega) (by omega) (by omega)]
    by_cases q1 : j = k
    · subst q1
      rw [c11, wE]
      exact ⟨d1, d2, d3, rfl, d5, d6, hE⟩
    · rw [c' 11 j (by omega) (by omega) (by omega) (by omega), w' (77 + 4 * j) (by omega) (by omega) (by omega) (by omega)]
      exact ⟨d1, d2, d3, d4, d5, d6, d7⟩
  · rw [esz] at hg
    unfold eb_cc eb_wc
    by_cases q0 : g = 0
    · subst q0
      rw [show ((t + 1) % 60 + 60 - 0) % 60 = (t + 1) % 60 by omega, if_pos ⟨rfl, by omega, by omega⟩, if_pos (by omega), show (t + 1) % 60 * 6 + x - (t + 1) % 60 * 6 = x by omega, show 122 + 6 * 0 + x - 122 = x by omega]
    · have e : ((t + 1) % 60 + 60 - g) % 60 = (t + 60 - (g - 1)) % 60 := by omega
      have e2 : (t + 60 - (g - 1)) % 60 ≠ (t + 1) % 60 := by omega
      rw [e, if_neg (by omega), if_neg (by omega), if_neg (by omega), if_neg (by omega), if_neg (by omega), if_neg (by omega), if_pos (by omega), h0 _ (by omega), hl (g - 1) x (by omega) hx, show 122 + 6 * g + x - 6 = 122 + 6 * (g - 1) + x by omega]
end CALL
