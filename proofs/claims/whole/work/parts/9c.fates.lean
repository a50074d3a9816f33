section FATES
variable {m mm : ea_M} {w : Nat → Int32}
theorem eb_rFates : ∀ b, b < 6 → ea_rFates.getD b 0 = 254 + 3 * b := by decide
/-- the world's numbers that reckoning needs -/
theorem eb_rng (h : eb_I m) : ∃ fr tw tp tv, m 273 9 = nI fr ∧ m 273 10 = nI tw ∧ fr ≤ tw ∧ tw ≤ 15 ∧ m 273 8 = nI tp ∧ 1 ≤ tp ∧ tp ≤ 12 ∧ m 273 7 = nI tv ∧ tv ≤ 15 := by
  obtain ⟨t, t1, t2, t3⟩ := h.1.1.2.1.2.2.2.2.2.2.2.1
  obtain ⟨c, c1, c2⟩ := h.1.1.2.1.2.2.2.2.2.2.1
  obtain ⟨f, g, f1, f2, f3, f4⟩ := h.1.1.2.1.2.2.2.2.2.2.2.2.1
  exact ⟨f, g, t, c, f3, f4, f1, f2, t3, t1, t2, c2, c1⟩
/-- the fates are known -/
def eb_kf (m z : ea_M) : Prop := eb_I z ∧ z 273 = m 273 ∧ (∀ b, b < eb_b (m 273) → eb_FT (m 273) b (eb_ct z (254 + 3 * b))) ∧ z 272 = m 272 ∧ z 287 = m 287
theorem eb_A_k {n : Nat} (h : eb_A m w n) (k : ∀ r, r < 22 → r ≠ 16 → mm r = m r) (g : ∀ i, i ≠ 2 → i ≠ 3 → mm 16 i = m 16 i) : eb_A mm w n := by
  obtain ⟨h1, h2, h3, h4, h5, h6, h7, h8⟩ := h
  unfold eb_A
  rw [k 2 (by decide) (by decide), k 3 (by decide) (by decide), k 4 (by decide) (by decide), k 5 (by decide) (by decide)]
  exact ⟨h1, h2, h3, h4, h5, h6, h7, eb_LR_cg (l := eb_ct m 16) (l' := eb_ct mm 16) (g 0 (by decide) (by decide)) (g 1 (by decide) (by decide)) (fun i j _ _ _ => congrFun (k (16 + i) (by omega) (by omega)) j) (fun j _ _ => congrFun (k 21 (by decide) (by decide)) j) rfl (fun _ _ _ => rfl) h8⟩
theorem eb_reckonF (h : eb_I m) : eb_W (f_X11_reckonFates m) (fun z => eb_kf m z.2) := by
  obtain ⟨n, hn, e1, e2, e3⟩ := eb_IB h
  obtain ⟨fr, tw, tp, tv, r1, r2, r3, r4, r5, r6, r7, r8, r9⟩ := eb_rng h
  have hA := eb_A_of h
  rw [e3] at hA
  unfold f_X11_reckonFates
  have fin : ∀ x : ea_M, (∀ r, r ≠ 16 → r ≠ 22 → r ≠ 23 → r ≠ 73 → r ≠ 77 → r ≠ 78 → ¬ (254 ≤ r ∧ r ≤ 271) → x r = m r) → (∀ i, i ≠ 2 → i ≠ 3 → x 16 i = m 16 i) → (∀ b, b < n → eb_FT (m 273) b (eb_ct x (254 + 3 * b))) → eb_kf m (ea_st x 0 18 1) := fun x k1 k2 k3 => by
    have e273 : (ea_st x 0 18 1) 273 = m 273 := by rw [eb_stA _ _ _ (by decide), k1 273 (by decide) (by decide) (by decide) (by decide) (by decide) (by decide) (by omega)]
    have ft : ∀ b, b < n → eb_FT (m 273) b (eb_ct (ea_st x 0 18 1) (254 + 3 * b)) := fun b hb => by
      have : eb_ct (ea_st x 0 18 1) (254 + 3 * b) = eb_ct x (254 + 3 * b) := by
        funext i j
        show ea_st x 0 18 1 (254 + 3 * b + i) j = x (254 + 3 * b + i) j
        rw [eb_stA _ _ _ (by omega)]
      rw [this]
      exact k3 b hb
    refine ⟨⟨eb_J_cg (fun a i hi => ?_) h.1, Or.inr ⟨eb_st _ _ _ _, ?_⟩⟩, e273, ?_, ?_, ?_⟩
    · unfold eb_NJ at hi
      rw [eb_sts, if_neg (by omega)]
      by_cases q : a = 16
      · subst q
        exact k2 i (by omega) (by omega)
      · rw [k1 a q (by omega) (by omega) (by omega) (by omega) (by omega) (by omega)]
    · rw [e273, e3]
      exact ft
    · rw [e3]
      exact ft
    · rw [eb_stA _ _ _ (by decide), k1 272 (by decide) (by decide) (by decide) (by decide) (by decide) (by decide) (by omega)]
    · rw [eb_stA _ _ _ (by decide), k1 287 (by decide) (by decide) (by decide) (by decide) (by decide) (by decide) (by omega)]
  rcases h.2 with z0 | ⟨z1, zf⟩
  · refine eb_bind (eb_for (Q := fun x => (∀ r, r ≠ 16 → r ≠ 22 → r ≠ 23 → r ≠ 73 → r ≠ 77 → r ≠ 78 → ¬ (254 ≤ r ∧ r ≤ 271) → x r = m r) ∧ (∀ i, i ≠ 2 → i ≠ 3 → x 16 i = m 16 i) ∧ ∀ b, b < n → eb_FT (m 273) b (eb_ct x (254 + 3 * b))) n (fun i t => t.1 = nI i ∧ (∀ r, r ≠ 16 → r ≠ 22 → r ≠ 23 → r ≠ 73 → r ≠ 77 → r ≠ 78 → ¬ (254 ≤ r ∧ r ≤ 271) → t.2 r = m r) ∧ (∀ i, i ≠ 2 → i ≠ 3 → t.2 16 i = m 16 i) ∧ ∀ b, b < i → eb_FT (m 273) b (eb_ct t.2 (254 + 3 * b))) ?_ ?_ (by unfold ea_fuel; omega) ⟨rfl, fun _ _ _ _ _ _ _ _ => rfl, fun _ _ _ => rfl, fun b hb => absurd hb (Nat.not_lt_zero _)⟩) fun x hx => eb_bd (eb_some (fin x hx.1 hx.2.1 hx.2.2))
    · rintro i ⟨t1, mm⟩ hi ⟨g1, g2, g3, g4⟩
      have g1 : t1 = nI i := g1
      subst g1
      have g2 : ∀ r, r ≠ 16 → r ≠ 22 → r ≠ 23 → r ≠ 73 → r ≠ 77 → r ≠ 78 → ¬ (254 ≤ r ∧ r ≤ 271) → mm r = m r := g2
      have g3 : ∀ i, i ≠ 2 → i ≠ 3 → mm 16 i = m 16 i := g3
      have g4 : ∀ b, b < i → eb_FT (m 273) b (eb_ct mm (254 + 3 * b)) := g4
      have q2 : mm 2 = m 2 := g2 2 (by decide) (by decide) (by decide) (by decide) (by decide) (by decide) (by omega)
      have q0 : mm 0 = m 0 := g2 0 (by decide) (by decide) (by decide) (by decide) (by decide) (by decide) (by omega)
      have hAm : eb_A mm (m 273) n := eb_A_k hA (fun r p1 p2 => g2 r p2 (by omega) (by omega) (by omega) (by omega) (by omega) (by omega)) g3
      · unfold f_X11_reckonFates_s2
        dsimp only
        rw [q2, e2, eb_bdR, if_neg (nI_ge hi (by omega)), q0, z0, eb_bdR, if_pos rfl, eb_gN (by omega) (by decide), eb_bdR, nI_clamp (by omega), eb_rFates i (by omega)]
        refine eb_cl (eb_reckonA (a := 254 + 3 * i) (by unfold eb_fp; omega) hn hi hAm r1 r2 r3 r4 r5 r7 r8 r9) fun r m4 hz => ?_
        dsimp only at hz
        obtain ⟨y1, y2⟩ := hz
        rw [nI_1]
        refine eb_some ⟨rfl, fun r p1 p2 p3 p4 p5 p6 p7 => ?_, fun j p1 p2 => ?_, fun b hb => ?_⟩
        · show m4 r = m r
          rw [y1.1 r p1 p2 p3 p4 p5 p6 (by omega) (by omega) (by omega), g2 r p1 p2 p3 p4 p5 p6 p7]
        · show m4 16 j = m 16 j
          rw [y1.2 j p1 p2]; exact g3 j p1 p2
        · by_cases q : b = i
          · subst q
            exact y2
          · have := g4 b (by omega)
            refine eb_FT_cg (fun _ _ => rfl) (eb_lv_of h.1.2.1) (by omega) (fun ii j hii => ?_) this
            show m4 (254 + 3 * b + ii) j = mm (254 + 3 * b + ii) j
            rw [y1.1 _ (by omega) (by omega) (by omega) (by omega) (by omega) (by omega) (by omega) (by omega) (by omega)]
    · rintro ⟨t1, mm⟩ ⟨g1, g2, g3, g4⟩
      have g1 : t1 = nI n := g1
      subst g1
      have g2 : ∀ r, r ≠ 16 → r ≠ 22 → r ≠ 23 → r ≠ 73 → r ≠ 77 → r ≠ 78 → ¬ (254 ≤ r ∧ r ≤ 271) → mm r = m r := g2
      have q2 : mm 2 = m 2 := g2 2 (by decide) (by decide) (by decide) (by decide) (by decide) (by decide) (by omega)
      unfold f_X11_reckonFates_s2
      dsimp only
      rw [q2, e2, eb_bdR, if_pos (nI_le (Nat.le_refl _) (by omega))]
      exact eb_some ⟨g2, g3, g4⟩
  · have q : f_X11_reckonFates_s2 (0, m) = some (.inr m) := by
      unfold f_X11_reckonFates_s2
      dsimp only
      rw [e2, eb_bdR]
      by_cases p : nI n ≤ 0
      · rw [if_pos p]
      · rw [if_neg p, z1, eb_bdR, if_neg eb_ne10]
    rw [show (ea_fuel : Nat) = 99999 + 1 from rfl, eb_loop_inr q, eb_obR]
    rw [e3] at zf
    exact eb_bd (eb_some (fin m (fun _ _ _ _ _ _ _ _ => rfl) (fun _ _ _ => rfl) zf))
/-! the reference's goods -/
theorem eb_landedAtM {k c : Nat} {L : Nat → Int32} (hk : k < 8) (hc : c < 16) (h : ∀ j, j < 128 → m 283 (16 + j) = L j) : f_X12_landedAt (nI (k + 1)) (nI c) m = some (L (16 * k + c), m) := by
  unfold f_X12_landedAt
  rw [show (16 : Int32) * nI (k + 1) + nI c = nI (16 + (16 * k + c)) by show nI 16 * nI (k + 1) + nI c = _; rw [pk_mul, nI_add, show 16 * (k + 1) + c = 16 + (16 * k + c) by omega], eb_bdR, eb_gN (by omega) (by decide), eb_bdR, nI_clamp (by omega), h _ (by omega)]
theorem eb_goodAtM {k fr tw : Nat} {L : Nat → Int32} (hk : k < 8) (h273 : m 273 = w) (hf : w 9 = nI fr) (ht : w 10 = nI tw) (h1 : fr ≤ tw) (h2 : tw ≤ 15) (h : ∀ j, j < 128 → m 283 (16 + j) = L j) : f_X12_goodAt (nI (k + 1)) m = some (eb_gd w L k, m) := by
  unfold f_X12_goodAt eb_gd
  rw [h273, hf, ht, eb_bdR, nI_clamp (by omega), nI_clamp (by omega)]
  refine eb_loopB (tw + 1 - fr) (fun i => (eb_S (fun i => L (16 * k + (fr + i))) i, nI (fr + i), m)) (eb_S (fun i => L (16 * k + (fr + i))) (tw + 1 - fr), m) rfl (fun i hi => ?_) ?_ (by unfold ea_fuel; omega) rfl
  · unfold f_X12_goodAt_s10
    dsimp only
    rw [h273, ht, eb_bdR, if_neg (nI_nlt (by omega) (by omega)), eb_landedAtM hk (by omega) h, eb_clR, eb_bdR, nI_1]
    rfl
  · unfold f_X12_goodAt_s10
    dsimp only
    rw [h273, ht, eb_bdR, if_pos (nI_lt (by omega) (by omega))]
theorem eb_goodAllM {fr tw : Nat} {L : Nat → Int32} (h273 : m 273 = w) (hf : w 9 = nI fr) (ht : w 10 = nI tw) (h1 : fr ≤ tw) (h2 : tw ≤ 15) (h : ∀ j, j < 128 → m 283 (16 + j) = L j) : f_X12_goodAll m = some (eb_S (eb_gd w L) 8, m) := by
  unfold f_X12_goodAll
  refine eb_loopB 8 (fun i => (eb_S (eb_gd w L) i, nI (i + 1), m)) (eb_S (eb_gd w L) 8, m) rfl (fun i hi => ?_) ?_ (by decide) rfl
  · unfold f_X12_goodAll_s4
    dsimp only
    rw [if_neg (show ¬ (8 : Int32) < nI (i + 1) from nI_nlt (a := 8) (by omega) (by decide)), eb_goodAtM hi h273 hf ht h1 h2 h, eb_clR, eb_bdR, nI_1]
    rfl
  · unfold f_X12_goodAll_s4
    rw [if_pos (show (8 : Int32) < nI (8 + 1) by decide)]
theorem eb_goodUpA {a : Nat} {G : Nat → Int32} (h : ∀ k, k < 8 → m (a + 2) (k + 1) = G k) : f_X4_allGood a m = some (eb_S G 8, m) := by
  unfold f_X4_allGood
  refine eb_loopB 8 (fun i => (eb_S G i, nI (i + 1), m)) (eb_S G 8, m) rfl (fun i hi => ?_) ?_ (by decide) rfl
  · unfold f_X4_allGood_s4
    dsimp only
    rw [if_neg (show ¬ (8 : Int32) < nI (i + 1) from nI_nlt (a := 8) (by omega) (by decide)), eb_gN (by omega) (by decide), eb_bdR, nI_clamp (by omega), h i hi, eb_bdR, nI_1]
    rfl
  · unfold f_X4_allGood_s4
    rw [if_pos (show (8 : Int32) < nI (8 + 1) by decide)]
theorem eb_MS_E (h : eb_MS m mm) : eb_E m mm := eb_E_pt fun a i hs => by
  unfold eb_Sc at hs
  by_cases q : a = 272
  · subst q
    exact h.2 i (by omega) (by omega) (by omega)
  · rw [h.1 a q (by omega) (by omega) (by omega) (by omega)]
end FATES
