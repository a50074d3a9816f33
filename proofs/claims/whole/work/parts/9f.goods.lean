section GOODS
variable {m m1 mm z : ea_M} {w : Nat → Int32} {g : Nat → Nat → Int32} {n i j k : Nat}
/-- the goods of all birds: the class's, the reference's -/
def eb_KA (m : ea_M) (n : Nat) (g : Nat → Nat → Int32) : Prop := m 2 8 = nI n ∧ ∀ b, b < n → ∀ k, k < 8 → m (254 + 3 * b + 2) (k + 1) = g b k
def eb_KM (m : ea_M) (n : Nat) (g : Nat → Nat → Int32) : Prop := m 273 0 = nI n ∧ ∀ b, b < n → ∀ k, k < 8 → m 286 (9 * b + (k + 1)) = g b k
def eb_ng (f : Nat → Int32) : Nat → Int32
  | 0 => 6561
  | k + 1 => eb_ng f k - f k
def eb_ah (f f' : Nat → Int32) : Nat → Int32
  | 0 => 0
  | k + 1 => eb_ah f f' k + f k * eb_ng f' (k + 1)
/-- i has it before j -/
def eb_hs (g : Nat → Nat → Int32) (i j : Nat) : Int32 := eb_ah (g i) (g j) 8
theorem eb_KA_of (h : eb_I m) (e3 : eb_b (m 273) = n) (hk : eb_kf m z) : eb_KA z n (eb_g8 (m 273)) := by
  refine ⟨?_, fun b hb k hk8 => (hk.2.2.1 b (by rw [e3]; exact hb)).2.2.2 k hk8⟩
  obtain ⟨n', _, a1, a2, a3⟩ := eb_IB hk.1
  rw [hk.2.1, e3] at a3
  rw [a2, a3]
theorem eb_aheadA {a a' : Nat} {f f' : Nat → Int32} (h : ∀ k, k < 8 → m (a + 2) (k + 1) = f k) (h' : ∀ k, k < 8 → m (a' + 2) (k + 1) = f' k) : f_X4_ahead a a' m = some (eb_ah f f' 8, m) := by
  unfold f_X4_ahead
  refine eb_loopB 8 (fun i => (eb_ah f f' i, eb_ng f' i, nI (i + 1), m)) (eb_ah f f' 8, m) rfl (fun i hi => ?_) ?_ (by decide) rfl
  · unfold f_X4_ahead_s9
    dsimp only
    rw [if_neg (show ¬ (8 : Int32) < nI (i + 1) from nI_nlt (a := 8) (by omega) (by decide)), eb_gN (by omega) (by decide), eb_bdR, nI_clamp (by omega), h' i hi, eb_bdR, eb_gN (by omega) (by decide), eb_bdR, h i hi, eb_bdR, nI_1]
    rfl
  · unfold f_X4_ahead_s9
    rw [if_pos (show (8 : Int32) < nI (8 + 1) by decide)]
theorem eb_hasItA (hK : eb_KA m n g) (hn : n ≤ 6) (hi : i < n) (hj : j < n) : f_X11_hasIt (nI i) (nI j) m = some (eb_hs g i j, m) := by
  unfold f_X11_hasIt eb_hs
  rw [eb_gN (j := i) (by omega) (by decide), eb_bdR, nI_clamp (n := i) (by omega), eb_rFates i (by omega), eb_gN (by omega) (by decide), eb_bdR, nI_clamp (by omega), eb_rFates j (by omega), eb_aheadA (hK.2 i hi) (hK.2 j hj), eb_clR]
theorem eb_togetherA {a a' : Nat} {f f' : Nat → Int32} (h : ∀ k, k < 8 → m (a + 2) (k + 1) = f k) (h' : ∀ k, k < 8 → m (a' + 2) (k + 1) = f' k) : f_X4_together a a' m = some (eb_S (fun k => f k * f' k) 8, m) := by
  unfold f_X4_together
  refine eb_loopB 8 (fun i => (eb_S (fun k => f k * f' k) i, nI (i + 1), m)) (eb_S (fun k => f k * f' k) 8, m) rfl (fun i hi => ?_) ?_ (by decide) rfl
  · unfold f_X4_together_s4
    dsimp only
    rw [if_neg (show ¬ (8 : Int32) < nI (i + 1) from nI_nlt (a := 8) (by omega) (by decide)), eb_gN (by omega) (by decide), eb_bdR, nI_clamp (by omega), h i hi, eb_gN (by omega) (by decide), eb_bdR, h' i hi, eb_bdR, nI_1]
    rfl
  · unfold f_X4_together_s4
    rw [if_pos (show (8 : Int32) < nI (8 + 1) by decide)]
theorem eb_subsub (a b c : Int32) : a - b - c = a - (b + c) := by
  rw [Int32.sub_eq_add_neg, Int32.sub_eq_add_neg, Int32.sub_eq_add_neg, Int32.neg_add, Int32.sub_eq_add_neg, Int32.add_assoc]
theorem eb_ng_S (f : Nat → Int32) : ∀ k, eb_ng f k = 6561 - eb_S f k
  | 0 => by
    show (6561 : Int32) = 6561 - 0
    decide
  | k + 1 => by
    show eb_ng f k - f k = 6561 - (eb_S f k + f k)
    rw [eb_ng_S f k, eb_subsub]
theorem eb_neitherA {a a' : Nat} {f f' : Nat → Int32} (h : ∀ k, k < 8 → m (a + 2) (k + 1) = f k) (h' : ∀ k, k < 8 → m (a' + 2) (k + 1) = f' k) : f_X4_neither a a' m = some (eb_ng f 8 * eb_ng f' 8, m) := by
  unfold f_X4_neither
  rw [eb_goodUpA h, eb_clR, eb_goodUpA h', eb_clR, eb_bdR, ← eb_ng_S, ← eb_ng_S]
theorem eb_goodOfM (hK : eb_KM m n g) (hn : n ≤ 6) (hi : i < n) (hk : k < 8) : f_X12_goodOf (nI i) (nI (k + 1)) m = some (g i k, m) := by
  unfold f_X12_goodOf
  rw [show (9 : Int32) * nI i + nI (k + 1) = nI (9 * i + (k + 1)) by show nI 9 * nI i + nI (k + 1) = _; rw [pk_mul, nI_add], eb_bdR, eb_gN (by omega) (by decide), eb_bdR, nI_clamp (by omega), hK.2 i hi k hk]
theorem eb_notGoodM (hK : eb_KM m n g) (hn : n ≤ 6) (hi : i < n) (hk : k ≤ 8) : f_X12_notGood (nI i) (nI k) m = some (eb_ng (g i) k, m) := by
  unfold f_X12_notGood
  refine eb_loopB k (fun q => (eb_ng (g i) q, nI (q + 1), m)) (eb_ng (g i) k, m) rfl (fun q hq => ?_) ?_ (by unfold ea_fuel; omega) rfl
  · unfold f_X12_notGood_s7
    dsimp only
    rw [if_neg (nI_nlt (by omega) (by omega)), eb_goodOfM hK hn hi (by omega), eb_clR, eb_bdR, nI_1]
    rfl
  · unfold f_X12_notGood_s7
    dsimp only
    rw [if_pos (nI_lt (by omega) (by omega))]
theorem eb_firstHasM (hK : eb_KM m n g) (hn : n ≤ 6) (hi : i < n) (hj : j < n) : f_X12_firstHas (nI i) (nI j) m = some (eb_hs g i j, m) := by
  unfold f_X12_firstHas eb_hs
  refine eb_loopB 8 (fun q => (eb_ah (g i) (g j) q, nI (q + 1), m)) (eb_ah (g i) (g j) 8, m) rfl (fun q hq => ?_) ?_ (by decide) rfl
  · unfold f_X12_firstHas_s5
    dsimp only
    rw [if_neg (show ¬ (8 : Int32) < nI (q + 1) from nI_nlt (a := 8) (by omega) (by decide)), eb_goodOfM hK hn hi hq, eb_clR, eb_notGoodM hK hn hj (by omega), eb_clR, eb_bdR, nI_1]
    rfl
  · unfold f_X12_firstHas_s5
    rw [if_pos (show (8 : Int32) < nI (8 + 1) by decide)]
theorem eb_bothHaveM (hK : eb_KM m n g) (hn : n ≤ 6) (hi : i < n) (hj : j < n) : f_X12_bothHave (nI i) (nI j) m = some (eb_S (fun k => g i k * g j k) 8, m) := by
  unfold f_X12_bothHave
  refine eb_loopB 8 (fun q => (eb_S (fun k => g i k * g j k) q, nI (q + 1), m)) (eb_S (fun k => g i k * g j k) 8, m) rfl (fun q hq => ?_) ?_ (by decide) rfl
  · unfold f_X12_bothHave_s5
    dsimp only
    rw [if_neg (show ¬ (8 : Int32) < nI (q + 1) from nI_nlt (a := 8) (by omega) (by decide)), eb_goodOfM hK hn hi hq, eb_clR, eb_goodOfM hK hn hj hq, eb_clR, eb_bdR, nI_1]
    rfl
  · unfold f_X12_bothHave_s5
    rw [if_pos (show (8 : Int32) < nI (8 + 1) by decide)]
/-- laying the goods of bird b -/
theorem eb_laysG {b : Nat} (hb : b < 6) (h273 : mm 273 = w) (ok : eb_OK w) : eb_W (f_X12_laysGoods (nI b) mm) (fun z => eb_MZ mm z.2 ∧ (∀ k, k < 8 → z.2 286 (9 * b + (k + 1)) = eb_g8 w b k) ∧ ∀ j, j < 9 * b + 1 ∨ 9 * b + 8 < j → z.2 286 j = mm 286 j) := by
  obtain ⟨⟨l, hl⟩, fr, tw, tp, tv, r1, r2, r3, r4, r5, r6, r7, r8, r9⟩ := ok
  unfold f_X12_laysGoods
  refine eb_cl (eb_laysM hb h273 hl r5 r6 r7 r8 r9) fun r m1 hz => ?_
  obtain ⟨z1, z2⟩ := hz
  have z1 : eb_MS mm m1 := z1
  have z2 : ∀ j, j < 128 → m1 283 (16 + j) = eb_lan w (nI b) j := z2.2.2
  have l273 : m1 273 = w := (z1.1 273 (by decide) (by decide) (by decide) (by decide) (by decide)).trans h273
  have l286 : m1 286 = mm 286 := z1.1 286 (by decide) (by decide) (by decide) (by decide) (by decide)
  refine eb_bind (eb_for (Q := fun z => (∀ r, r ≠ 286 → z r = m1 r) ∧ (∀ k, k < 8 → z 286 (9 * b + (k + 1)) = eb_g8 w b k) ∧ ∀ j, j < 9 * b + 1 ∨ 9 * b + 8 < j → z 286 j = mm 286 j) 8 (fun i t => t.1 = nI (i + 1) ∧ (∀ r, r ≠ 286 → t.2 r = m1 r) ∧ (∀ k, k < i → t.2 286 (9 * b + (k + 1)) = eb_g8 w b k) ∧ ∀ j, j < 9 * b + 1 ∨ 9 * b + 8 < j → t.2 286 j = mm 286 j) ?_ ?_ (by decide) ⟨rfl, fun _ _ => rfl, fun k hk => absurd hk (Nat.not_lt_zero _), fun j _ => congrFun l286 j⟩) fun x hx => eb_some ⟨eb_MZ_trans (eb_MZ_MS z1) ⟨fun r _ _ _ _ _ q => hx.1 r q, fun i _ _ _ => congrFun (hx.1 272 (by decide)) i⟩, hx.2.1, hx.2.2⟩
  · rintro i ⟨t1, m2⟩ hi ⟨g1, g2, g3, g4⟩
    have g1 : t1 = nI (i + 1) := g1
    subst g1
    have g2 : ∀ r, r ≠ 286 → m2 r = m1 r := g2
    have g3 : ∀ k, k < i → m2 286 (9 * b + (k + 1)) = eb_g8 w b k := g3
    have g4 : ∀ j, j < 9 * b + 1 ∨ 9 * b + 8 < j → m2 286 j = mm 286 j := g4
    unfold f_X12_laysGoods_s7
    dsimp only
    rw [if_neg (show ¬ (8 : Int32) < nI (i + 1) from nI_nlt (a := 8) (by omega) (by decide)), show (9 : Int32) * nI b + nI (i + 1) = nI (9 * b + (i + 1)) by show nI 9 * nI b + nI (i + 1) = _; rw [pk_mul, nI_add], eb_bdR, eb_goodAtM (w := w) hi (by rw [g2 273 (by decide)]; exact l273) r1 r2 r3 r4 (L := eb_lan w (nI b)) (fun j hj => by rw [g2 283 (by decide)]; exact z2 j hj), eb_clR, eb_gN (by omega) (by decide), eb_bdR, nI_clamp (by omega), nI_1]
    refine eb_some ⟨rfl, fun r hr => ?_, fun k hk => ?_, fun j hj => ?_⟩
    · show ea_st m2 286 _ _ r = _
      rw [eb_stA _ _ _ hr]; exact g2 r hr
    · show ea_st m2 286 _ _ 286 _ = _
      by_cases q : k = i
      · subst q
        rw [eb_st]; rfl
      · rw [eb_stI _ _ _ (by omega)]; exact g3 k (by omega)
    · show ea_st m2 286 _ _ 286 _ = _
      rw [eb_stI _ _ _ (by omega)]; exact g4 j hj
  · rintro ⟨t1, m2⟩ ⟨g1, g2, g3, g4⟩
    have g1 : t1 = nI (8 + 1) := g1
    subst g1
    unfold f_X12_laysGoods_s7
    rw [if_pos (show (8 : Int32) < nI (8 + 1) by decide)]
    exact eb_some ⟨g2, g3, g4⟩
theorem eb_laysAll (hn : n ≤ 6) (h273 : mm 273 = w) (h0 : w 0 = nI n) (ok : eb_OK w) : eb_W (f_X12_laysAllGoods mm) (fun z => eb_MZ mm z.2 ∧ eb_KM z.2 n (eb_g8 w)) := by
  unfold f_X12_laysAllGoods
  refine eb_bind (eb_for (Q := fun z => eb_MZ mm z ∧ eb_KM z n (eb_g8 w)) n (fun i t => t.1 = nI i ∧ eb_MZ mm t.2 ∧ ∀ b, b < i → ∀ k, k < 8 → t.2 286 (9 * b + (k + 1)) = eb_g8 w b k) ?_ ?_ (by unfold ea_fuel; omega) ⟨rfl, eb_MZ_refl _, fun b hb => absurd hb (Nat.not_lt_zero _)⟩) fun x hx => eb_some hx
  · rintro i ⟨t1, m2⟩ hi ⟨g1, g2, g3⟩
    have g1 : t1 = nI i := g1
    subst g1
    have g2 : eb_MZ mm m2 := g2
    have g3 : ∀ b, b < i → ∀ k, k < 8 → m2 286 (9 * b + (k + 1)) = eb_g8 w b k := g3
    have l273 : m2 273 = w := (eb_MZ_273 g2).trans h273
    unfold f_X12_laysAllGoods_s2
    dsimp only
    rw [eb_birds, eb_clR, l273, h0, if_neg (nI_ge hi (by omega))]
    refine eb_cl (eb_laysG (by omega) l273 ok) fun r m3 hz => ?_
    obtain ⟨z1, z2, z3⟩ := hz
    have z2 : ∀ k, k < 8 → m3 286 (9 * i + (k + 1)) = eb_g8 w i k := z2
    have z3 : ∀ j, j < 9 * i + 1 ∨ 9 * i + 8 < j → m3 286 j = m2 286 j := z3
    refine eb_some ⟨nI_1 i, eb_MZ_trans g2 z1, fun b hb k hk => ?_⟩
    show m3 286 (9 * b + (k + 1)) = _
    by_cases q : b = i
    · subst q; exact z2 k hk
    · rw [z3 _ (by omega)]; exact g3 b (by omega) k hk
  · rintro ⟨t1, m2⟩ ⟨g1, g2, g3⟩
    have g1 : t1 = nI n := g1
    subst g1
    have g2 : eb_MZ mm m2 := g2
    have l273 : m2 273 = w := (eb_MZ_273 g2).trans h273
    unfold f_X12_laysAllGoods_s2
    dsimp only
    rw [eb_birds, eb_clR, l273, h0, if_pos (nI_le (Nat.le_refl _) (by omega))]
    exact eb_some ⟨g2, by rw [l273]; exact h0, g3⟩
/-- it is a number, at most 6561 squared -/
theorem eb_hsN (ok : eb_OK w) (i j : Nat) : ∃ x, x ≤ 43046721 ∧ eb_hs (eb_g8 w) i j = nI x := by
  obtain ⟨F, f1, f2⟩ := eb_g8N ok i
  obtain ⟨G, g1, g2⟩ := eb_g8N ok j
  have mono : ∀ d k, k + d = 8 → eb_N G k ≤ eb_N G 8 := by
    intro d
    induction d with
    | zero => intro k hk; rw [show k = 8 by omega]; exact Nat.le_refl _
    | succ d ih => intro k hk; exact Nat.le_trans (Nat.le_add_right _ _) (ih (k + 1) (by omega))
  have hng : ∀ k, k ≤ 8 → eb_ng (eb_g8 w j) k = nI (6561 - eb_N G k) := by
    intro k hk
    rw [eb_ng_S, eb_S_N g1 k, show (6561 : Int32) = nI 6561 from rfl, pk_sub (by have := mono (8 - k) k (by omega); omega)]
  have hah : ∀ k, k ≤ 8 → ∃ x, x ≤ eb_N F k * 6561 ∧ eb_ah (eb_g8 w i) (eb_g8 w j) k = nI x := by
    intro k
    induction k with
    | zero => intro _; exact ⟨0, Nat.zero_le _, rfl⟩
    | succ k ih =>
      intro hk
      obtain ⟨x, x1, x2⟩ := ih (by omega)
      refine ⟨x + F k * (6561 - eb_N G (k + 1)), ?_, ?_⟩
      · show _ ≤ (eb_N F k + F k) * 6561
        rw [Nat.add_mul]
        exact Nat.add_le_add x1 (Nat.mul_le_mul_left _ (Nat.sub_le _ _))
      · show eb_ah (eb_g8 w i) (eb_g8 w j) k + eb_g8 w i k * eb_ng (eb_g8 w j) (k + 1) = _
        rw [x2, hng (k + 1) hk, f1 k, pk_mul, nI_add]
  obtain ⟨x, x1, x2⟩ := hah 8 (Nat.le_refl _)
  refine ⟨x, Nat.le_trans x1 ?_, x2⟩
  exact Nat.le_trans (Nat.mul_le_mul_right _ f2) (by decide)
end GOODS
