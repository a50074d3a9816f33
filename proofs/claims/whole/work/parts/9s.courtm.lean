section COURTM
variable {c : Nat → Nat} {L p q n j j' : Nat} {m m0 : ea_M} {w : Nat → Int32} {cc : Nat → Nat → Int32} {τ : Type} {Q : τ → Prop} {F : Int32 → ea_M → Option τ} {lo hi : Int32}
/-- all but the reference's point, begin and world is as it was -/
def et_MF (m0 m : ea_M) : Prop := ∀ b i, ¬ (b = 272 ∧ (i = 10 ∨ i = 12)) → b ≠ 273 → m b i = m0 b i
theorem et_MF_F {m1 m2 : ea_M} (h : et_MF m0 m1) (k : et_F m1 m2) : et_MF m0 m2 := fun b i h1 h2 => (k b i h1).trans (h b i h1 h2)
theorem et_MF_st {m1 : ea_M} (h : et_MF m0 m1) (i : Nat) (v : Int32) : et_MF m0 (ea_st m1 273 i v) := fun b k h1 h2 => by rw [eb_stA _ _ _ h2]; exact h b k h1 h2
theorem et_F_w {m1 : ea_M} (k : et_F m m1) : m1 273 = m 273 := funext fun i => k 273 i (by omega)
theorem et_M_st {m1 : ea_M} (h : et_M c L m1 q) (i : Nat) (v : Int32) : et_M c L (ea_st m1 273 i v) q := et_M_cg h (by rw [eb_stA _ _ _ (by decide)]) (by rw [eb_stA _ _ _ (by decide)]) (eb_stA _ _ _ (by decide))
theorem et_M_ste {m1 m2 : ea_M} {i : Nat} {v : Int32} (h : et_M c L m1 q) (e : m2 = ea_st m1 273 i v) : et_M c L m2 q := by rw [e]; exact et_M_st h _ _
theorem et_stw (m : ea_M) (k : Nat) (v : Int32) : ea_st m 273 k v 273 = upd (m 273) k v := eb_up m 273 _
def et_MO (c : Nat → Nat) (L : Nat) (m0 : ea_M) (o : et_Out) (z : Int32 × ea_M) : Prop := et_MF m0 z.2 ∧ match o with
  | .inl f => z.1 = 0 ∧ z.2 272 12 = nI f
  | .inr q => z.1 = 1 ∧ et_M c L z.2 q.1 ∧ z.2 273 = q.2
theorem et_MO0 {m1 : ea_M} {f : Nat} (h1 : et_MF m0 m1) (h2 : m1 272 12 = nI f) : et_MO c L m0 (.inl f) (0, m1) := ⟨h1, rfl, h2⟩
theorem et_MO1 {m1 : ea_M} {q : Nat} {w' : Nat → Int32} (h1 : et_MF m0 m1) (h2 : et_M c L m1 q) (h3 : m1 273 = w') : et_MO c L m0 (.inr (q, w')) (1, m1) := ⟨h1, rfl, h2, h3⟩
theorem et_isWordE (hL : L ≤ 400) (hj : j < ea_str.length) (hj0 : 0 < ea_tl j) (hjj : (ea_str.getD j ("", 0, "")).2.2 = (ea_str.getD j' ("", 0, "")).2.2) (h : et_ML c L m p) : f_X12_isWord j m = some (eb_b2 (et_w c L p j'), m) := by
  rw [et_isWord hL hj hj0 h, et_w_eq hjj]
theorem et_mAfterE (hL : L ≤ 400) (hj : j < ea_str.length) (hj0 : 0 < ea_tl j) (hjj : (ea_str.getD j ("", 0, "")).2.2 = (ea_str.getD j' ("", 0, "")).2.2) (h : et_M c L m p)
    (h0 : et_w c L p j' = false → ∀ m1, et_F m m1 → m1 272 12 = nI (et_sb c L p) → eb_W (F (-1) m1) Q)
    (h01 : et_w c L p j' = true → et_num c L (et_te c L p) lo hi = none → ∀ m1, et_F m m1 → m1 272 12 = nI (et_sb c L (et_te c L p)) → eb_W (F (-1) m1) Q)
    (h1 : et_w c L p j' = true → ∀ v, et_num c L (et_te c L p) lo hi = some v → ∀ m1, et_F m m1 → et_M c L m1 (et_te c L (et_te c L p)) → eb_W (F (nI v) m1) Q) : eb_W (ea_cl (f_X12_after j lo hi m) F) Q := by
  rw [← et_w_eq hjj] at h0 h01 h1
  exact et_mAfter hL hj hj0 h h0 h01 h1
theorem et_pos {v : Nat} (h : v ≤ 999) : (0 : Int32) ≤ nI v := nI_pos' (by omega)
theorem et_mTower (hL : L ≤ 400) (hM : et_M c L m p) (hw : m 273 = w) (hf : et_MF m0 m) : eb_W (f_X12_readTower m) (et_MO c L m0 (et_oTower c L p w)) := by
  unfold f_X12_readTower et_oTower
  refine et_mNum hL hM (fun hn m1 k1 k2 => ?_) (fun v hn m1 k1 k2 _ => ?_)
  · rw [if_neg (by decide), et_B0 hn]
    unfold f_X12_readTower_j25
    rw [if_neg (by decide)]
    exact eb_some (et_MO0 (et_MF_F hf k1) k2)
  · obtain ⟨v1, v2, v3, v4⟩ := et_num_some hL hM.1 hn
    rw [if_pos (et_pos v1), et_B1 hn]
    unfold f_X12_readTower_j25
    refine et_mAfterE (j := 55) (j' := 9) hL (by decide) (by decide +kernel) rfl k2 (fun hw m3 g1 g2 => ?_) (fun hw hn m3 g1 g2 => ?_) (fun hw2 u hn m3 g1 g2 => ?_)
    · rw [if_neg (by decide), et_I0 hw]
      exact eb_some (et_MO0 (et_MF_F (et_MF_F hf k1) g1) g2)
    · rw [if_neg (by decide), et_I1 hw, et_B0 hn]
      exact eb_some (et_MO0 (et_MF_F (et_MF_F hf k1) g1) g2)
    · obtain ⟨u1, u2, u3, u4⟩ := et_num_some hL (et_te_le hL k2.1).2.1 hn
      rw [if_pos (et_pos u1), et_I1 hw2, et_B1 hn]
      refine eb_bd (eb_bd (eb_some (et_MO1 (et_MF_st (et_MF_st (et_MF_F (et_MF_F hf k1) g1) _ _) _ _) (et_M_st (et_M_st g2 _ _) _ _) ?_)))
      rw [et_stw, et_stw, et_F_w g1, et_F_w k1, hw]
theorem et_mYard (hL : L ≤ 400) (hM : et_M c L m p) (hw : m 273 = w) (hf : et_MF m0 m) : eb_W (f_X12_readYard m) (et_MO c L m0 (et_oYard c L p w)) := by
  unfold f_X12_readYard et_oYard
  refine et_mNum hL hM (fun hn m1 k1 k2 => ?_) (fun v hn m1 k1 k2 _ => ?_)
  · rw [if_neg (by decide), et_B0 hn]
    unfold f_X12_readYard_j25
    rw [if_neg (by decide)]
    exact eb_some (et_MO0 (et_MF_F hf k1) k2)
  · obtain ⟨v1, v2, v3, v4⟩ := et_num_some hL hM.1 hn
    rw [if_pos (et_pos v1), et_B1 hn]
    unfold f_X12_readYard_j25
    refine et_mAfterE (j := 57) (j' := 11) hL (by decide) (by decide +kernel) rfl k2 (fun hw m3 g1 g2 => ?_) (fun hw hn m3 g1 g2 => ?_) (fun hw2 u hn m3 g1 g2 => ?_)
    · rw [if_neg (by decide), et_I0 hw]
      exact eb_some (et_MO0 (et_MF_F (et_MF_F hf k1) g1) g2)
    · rw [if_neg (by decide), et_I1 hw, et_B0 hn]
      exact eb_some (et_MO0 (et_MF_F (et_MF_F hf k1) g1) g2)
    · obtain ⟨u1, u2, u3, u4⟩ := et_num_some hL (et_te_le hL k2.1).2.1 hn
      rw [if_pos (et_pos u1), et_I1 hw2, et_B1 hn]
      refine eb_bd (eb_bd (eb_some (et_MO1 (et_MF_st (et_MF_st (et_MF_F (et_MF_F hf k1) g1) _ _) _ _) (et_M_st (et_M_st g2 _ _) _ _) ?_)))
      rw [et_stw, et_stw, et_F_w g1, et_F_w k1, hw]
theorem et_mHour (hL : L ≤ 400) (hM : et_M c L m p) (hw : m 273 = w) (hf : et_MF m0 m) : eb_W (f_X12_readHour m) (et_MO c L m0 (et_oHour c L p w)) := by
  unfold f_X12_readHour et_oHour f_X12_readHour_j20
  refine et_mNum hL hM (fun hn m1 k1 k2 => ?_) (fun v hn m1 k1 k2 _ => ?_)
  · rw [if_pos (by decide), if_pos (by decide), et_B0 hn]
    exact eb_some (et_MO0 (et_MF_F hf k1) k2)
  · obtain ⟨v1, v2, v3, v4⟩ := et_num_some hL hM.1 hn
    rw [if_neg (nI_pos (by omega)), et_B1 hn]
    refine eb_bd ?_
    rw [if_neg (nI_pos (by omega))]
    refine eb_some (et_MO1 (et_MF_st (et_MF_F hf k1) _ _) (et_M_st k2 _ _) ?_)
    rw [et_stw, et_F_w k1, hw]
theorem et_mWind73 {l : Nat} {x : Int32} {m1 : ea_M} (hl : l < 13) (hM : et_M c L m1 q) (hw : m1 273 = w) (hf : et_MF m0 m1) : eb_W (f_X12_readWind_j73 (13 + nI l) x m1) (et_MO c L m0 (.inr (q, upd w (13 + l) x))) := by
  unfold f_X12_readWind_j73
  rw [show (13 : Int32) + nI l = nI (13 + l) from nI_add 13 l, eb_gN (by omega) (by decide), nI_clamp (by omega)]
  refine eb_bd (eb_some (et_MO1 (et_MF_st hf _ _) (et_M_st hM _ _) ?_))
  rw [et_stw, hw]
theorem et_mWind (hL : L ≤ 400) (hM : et_M c L m p) (hw : m 273 = w) (hf : et_MF m0 m) : eb_W (f_X12_readWind m) (et_MO c L m0 (et_oWind c L p w)) := by
  unfold f_X12_readWind et_oWind
  refine et_mNum hL hM (fun hn m1 k1 k2 => ?_) (fun v hn m1 k1 k2 _ => ?_)
  · rw [if_neg (by decide), et_B0 hn]
    exact eb_some (et_MO0 (et_MF_F hf k1) k2)
  · obtain ⟨v1, v2, v3, v4⟩ := et_num_some hL hM.1 hn
    have v5 := et_leN v1 (by decide) (show nI v ≤ nI 12 from v3)
    rw [if_pos (et_pos v1), et_B1 hn]
    refine et_mLet hL k2 fun r4 m3 g1 g2 => ?_
    have f3 := et_MF_F (et_MF_F hf k1) g1
    have w3 : m3 273 = w := by rw [et_F_w g1, et_F_w k1, hw]
    have fin : ∀ (b : Bool) (j : Nat), et_w c L (et_te c L p) j = true → eb_W (f_X12_readWind_j38 (nI v) (eb_b2 b) m3) (et_MO c L m0 (et_B (et_num c L (et_te c L (et_te c L p)) 0 3) (et_sb c L (et_te c L (et_te c L p))) fun u => .inr (et_te c L (et_te c L (et_te c L p)), upd w (13 + v) (if b then -nI u else nI u)))) := by
      intro b j hj
      unfold f_X12_readWind_j38 f_X12_readWind_j48
      refine et_mNum hL (et_ML_w hL g2 hj) (fun hn m5 h1 h2 => ?_) (fun u hn m5 h1 h2 _ => ?_)
      · rw [if_neg (by decide), et_B0 hn]
        exact eb_some (et_MO0 (et_MF_F f3 h1) h2)
      · obtain ⟨u1, u2, u3, u4⟩ := et_num_some hL (et_te_le hL (et_te_le hL hM.1).2.1).2.1 hn
        rw [if_pos (et_pos u1), et_B1 hn]
        cases b with
        | false =>
          rw [show eb_b2 false = 0 from rfl, if_pos rfl]
          exact et_mWind73 (by omega) h2 (by rw [et_F_w h1, w3]) (et_MF_F f3 h1)
        | true =>
          rw [show eb_b2 true = 1 from rfl, if_neg (by decide)]
          exact et_mWind73 (by omega) h2 (by rw [et_F_w h1, w3]) (et_MF_F f3 h1)
    rw [et_isWordE (j := 59) (j' := 13) hL (by decide) (by decide +kernel) rfl g2, eb_clR]
    cases hw13 : et_w c L (et_te c L p) 13 with
    | true =>
      rw [show eb_b2 true = 1 from rfl, if_neg (by decide), if_pos rfl]
      exact fin true 13 hw13
    | false =>
      rw [show eb_b2 false = 0 from rfl, if_pos rfl, if_neg (by decide), et_isWordE (j := 60) (j' := 14) hL (by decide) (by decide +kernel) rfl g2, eb_clR]
      cases hw14 : et_w c L (et_te c L p) 14 with
      | true =>
        rw [show eb_b2 true = 1 from rfl, if_neg (by decide), et_I1 rfl]
        exact fin false 14 hw14
      | false =>
        rw [show eb_b2 false = 0 from rfl, if_pos rfl, et_I0 rfl]
        unfold f_X12_readWind_j48
        rw [if_neg (by decide)]
        exact eb_some (et_MO0 f3 g2.2.1)
theorem et_st_same {m : ea_M} {a i : Nat} {v : Int32} (h : m a i = v) : ea_st m a i v = m := by
  funext b j
  rw [eb_sts]
  by_cases q : b = a ∧ j = i
  · rw [if_pos q, q.1, q.2, h]
  · rw [if_neg q]
theorem et_mBird (hL : L ≤ 400) (hM : et_M c L m (et_te c L p)) (h12 : m 272 12 = nI (et_sb c L p)) (hw : m 273 = w) (hC : eb_C cc w) (hf : et_MF m0 m) : eb_W (f_X12_readBird m) (et_MO c L m0 (if eb_b w < 6 then et_oBird c L (et_te c L p) w else .inl (et_sb c L p))) := by
  obtain ⟨b, hb⟩ : ∃ b, b = eb_b w := ⟨_, rfl⟩
  have hb6 : b ≤ 6 := by rw [hb]; exact hC.2.1.1.2
  have e0 : w 0 = nI b := by rw [hC.2.1.1.1, hb]
  unfold f_X12_readBird
  rw [eb_birds, eb_clR, hw, e0, ← hb]
  by_cases hb5 : b < 6
  · rw [if_neg (show ¬ nI b = 6 from (show ¬ nI b = nI 6 by rw [nI_eq (by omega) (by decide)]; omega)), if_pos hb5]
    unfold et_oBird
    rw [← hb]
    have j53 : ∀ x0 x1 m15, x1 < 0 → f_X12_readBird_j53 (nI b) x0 x1 m15 = some (0, m15) := fun x0 x1 m15 hx => by
      unfold f_X12_readBird_j53
      rw [if_neg (Int32.not_le.mpr hx)]
    have j36 : ∀ x0 m15, x0 < 0 → f_X12_readBird_j36 (nI b) x0 m15 = some (0, m15) := fun x0 m15 hx => by
      unfold f_X12_readBird_j36
      rw [if_neg (Int32.not_le.mpr hx)]
      exact j53 _ _ _ (by decide)
    have j102 : ∀ x0 x1 x2 x3 m15, x3 < 0 → f_X12_readBird_j102 (nI b) x0 x1 x2 x3 m15 = some (0, m15) := fun x0 x1 x2 x3 m15 hx => by
      unfold f_X12_readBird_j102
      rw [if_neg (Int32.not_le.mpr hx)]
    have j83 : ∀ x0 x1 x2 m15, x2 < 0 → f_X12_readBird_j83 (nI b) x0 x1 x2 m15 = some (0, m15) := fun x0 x1 x2 m15 hx => by
      unfold f_X12_readBird_j83
      rw [if_neg (Int32.not_le.mpr hx)]
      exact j102 _ _ _ _ _ (by decide)
    refine et_mLet hL hM fun r4 m3 k1 k2 => ?_
    have f3 := et_MF_F hf k1
    have w3 : m3 273 = w := by rw [et_F_w k1, hw]
    rw [et_isWordE (j := 47) (j' := 1) hL (by decide) (by decide +kernel) rfl k2, eb_clR]
    cases hw1 : et_w c L (et_te c L p) 1 with
    | false =>
      rw [show eb_b2 false = 0 from rfl, if_pos rfl, et_I0 rfl, j36 _ _ (by decide)]
      exact eb_some (et_MO0 f3 k2.2.1)
    | true =>
    rw [show eb_b2 true = 1 from rfl, if_neg (by decide), et_I1 rfl]
    have M4 := et_ML_w hL k2 hw1
    refine et_mNum hL M4 (fun hn m5 h1 h2 => ?_) (fun x0 hn0 m5 h1 h2 _ => ?_)
    · rw [j36 _ _ (by decide), et_B0 hn]
      exact eb_some (et_MO0 (et_MF_F f3 h1) h2)
    obtain ⟨x0a, _, _, _⟩ := et_num_some hL M4.1 hn0
    have f5 := et_MF_F f3 h1
    have w5 : m5 273 = w := by rw [et_F_w h1, w3]
    rw [et_B1 hn0]
    unfold f_X12_readBird_j36
    rw [if_pos (et_pos x0a)]
    refine et_mAfterE (j := 48) (j' := 2) hL (by decide) (by decide +kernel) rfl h2 (fun hw m7 g1 g2 => ?_) (fun hw hn m7 g1 g2 => ?_) (fun hw2 x1 hn1 m7 g1 g2 => ?_)
    · rw [j53 _ _ _ (by decide), et_I0 hw]
      exact eb_some (et_MO0 (et_MF_F f5 g1) g2)
    · rw [j53 _ _ _ (by decide), et_I1 hw, et_B0 hn]
      exact eb_some (et_MO0 (et_MF_F f5 g1) g2)
    obtain ⟨x1a, _, _, _⟩ := et_num_some hL (et_te_le hL h2.1).2.1 hn1
    have f7 := et_MF_F f5 g1
    have w7 : m7 273 = w := by rw [et_F_w g1, w5]
    rw [et_I1 hw2, et_B1 hn1]
    unfold f_X12_readBird_j53
    rw [if_pos (et_pos x1a)]
    refine et_mLet hL g2 fun r m16 l1 l2 => ?_
    have f16 := et_MF_F f7 l1
    have w16 : m16 273 = w := by rw [et_F_w l1, w7]
    rw [et_isWordE (j := 49) (j' := 3) hL (by decide) (by decide +kernel) rfl l2, eb_clR]
    cases hw3 : et_w c L (et_te c L (et_te c L (et_te c L (et_te c L (et_te c L p))))) 3 with
    | false =>
      rw [show eb_b2 false = 0 from rfl, if_pos rfl, et_I0 rfl, j83 _ _ _ _ (by decide)]
      exact eb_some (et_MO0 f16 l2.2.1)
    | true =>
    rw [show eb_b2 true = 1 from rfl, if_neg (by decide), et_I1 rfl]
    refine et_mTold (n := 6) hL (by decide) (et_ML_w hL l2 hw3) (fun hn m43 t1 t2 => ?_) (fun x2 hn2 m43 t1 t2 => ?_)
    · rw [j83 _ _ _ _ (by decide), et_B0 hn]
      exact eb_some (et_MO0 (et_MF_F f16 t1) t2)
    obtain ⟨y, _, y2, y3⟩ := et_let_rg hL (by decide) hn2
    have f43 := et_MF_F f16 t1
    have w43 : m43 273 = w := by rw [et_F_w t1, w16]
    rw [et_B1 hn2]
    unfold f_X12_readBird_j83
    rw [if_pos (by rw [y3]; exact et_pos (by omega))]
    refine et_mAfterE (j := 50) (j' := 4) hL (by decide) (by decide +kernel) rfl t2 (fun hw m7 g1 g2 => ?_) (fun hw hn m7 g1 g2 => ?_) (fun hw4 x3 hn3 m32 g1 g2 => ?_)
    · rw [j102 _ _ _ _ _ (by decide), et_I0 hw]
      exact eb_some (et_MO0 (et_MF_F f43 g1) g2)
    · rw [j102 _ _ _ _ _ (by decide), et_I1 hw, et_B0 hn]
      exact eb_some (et_MO0 (et_MF_F f43 g1) g2)
    obtain ⟨x3a, _, _, _⟩ := et_num_some hL (et_te_le hL t2.1).2.1 hn3
    have f32 := et_MF_F f43 g1
    have w32 : m32 273 = w := by rw [et_F_w g1, w43]
    rw [et_I1 hw4, et_B1 hn3]
    unfold f_X12_readBird_j102
    rw [if_pos (et_pos x3a), eb_bdR, show (26 : Int32) + 4 * nI b = nI (26 + 4 * b) by show nI 26 + nI 4 * nI b = _; rw [pk_mul, nI_add], show nI (26 + 4 * b) + 0 = nI (26 + 4 * b) from nI_add _ 0, show nI (26 + 4 * b) + 1 = nI (27 + 4 * b) by rw [nI_1, show 26 + 4 * b + 1 = 27 + 4 * b by omega], show nI (26 + 4 * b) + 2 = nI (28 + 4 * b) by show nI (26 + 4 * b) + nI 2 = _; rw [nI_add, show 26 + 4 * b + 2 = 28 + 4 * b by omega], show nI (26 + 4 * b) + 3 = nI (29 + 4 * b) by show nI (26 + 4 * b) + nI 3 = _; rw [nI_add, show 26 + 4 * b + 3 = 29 + 4 * b by omega], eb_gN (by omega) (by decide), nI_clamp (by omega)]
    refine eb_bdE fun m34 e34 => ?_
    rw [eb_gN (by omega) (by decide), nI_clamp (by omega)]
    refine eb_bdE fun m35 e35 => ?_
    rw [eb_gN (by omega) (by decide), nI_clamp (by omega)]
    refine eb_bdE fun m36 e36 => ?_
    rw [eb_gN (by omega) (by decide), nI_clamp (by omega)]
    refine eb_bdE fun m37 e37 => ?_
    have f37 : et_MF m0 m37 := by rw [e37, e36, e35, e34]; exact et_MF_st (et_MF_st (et_MF_st (et_MF_st f32 _ _) _ _) _ _) _ _
    have M37 := et_M_ste (et_M_ste (et_M_ste (et_M_ste g2 e34) e35) e36) e37
    have w37 : m37 273 = upd (upd (upd (upd w (26 + 4 * b) (nI x0)) (27 + 4 * b) (nI x1)) (28 + 4 * b) x2) (29 + 4 * b) (nI x3) := by rw [e37, et_stw, e36, et_stw, e35, et_stw, e34, et_stw, w32]
    clear e34 e35 e36 e37
    have lp : ea_loop (f_X12_readBird_s164 (nI b)) ea_fuel (0, m37) = some m37 := by
      refine eb_loopF 4 (fun i => (nI i, m37)) _ rfl (fun i hi => ?_) ?_ (by decide)
      · unfold f_X12_readBird_s164
        dsimp only
        rw [if_neg (show ¬ 4 ≤ nI i from (show ¬ nI 4 ≤ nI i from nI_ge hi (by decide))), eb_stockAt, eb_clR, eb_gN (by omega) (by decide), nI_clamp (by omega), eb_bdR, nI_1, et_st_same]
        rw [w37, et_u (by omega), et_u (by omega), et_u (by omega), et_u (by omega)]
        exact (hC.2.2.2.2.1 i b hi hb5).2.2 (by omega)
      · unfold f_X12_readBird_s164
        rfl
    rw [lp, eb_obR]
    refine eb_bdV (w := nI b) (by rw [w37, et_u (by omega), et_u (by omega), et_u (by omega), et_u (by omega)]; exact e0) (eb_bd (eb_some (et_MO1 (et_MF_st f37 _ _) (et_M_st M37 _ _) ?_)))
    rw [et_stw, w37, nI_1]
    rfl
  · rw [if_pos (show nI b = 6 from (show nI b = nI 6 by rw [show b = 6 by omega])), if_neg hb5]
    exact eb_some (et_MO0 hf h12)
theorem et_mCounsel (hL : L ≤ 400) (hM : et_M c L m (et_te c L p)) (h12 : m 272 12 = nI (et_sb c L p)) (hw : m 273 = w) (hC : eb_C cc w) (hf : et_MF m0 m) (h0 : m0 272 11 = nI L) (hT0 : et_T2 c m0) : eb_W (f_X12_readCounsel m) (et_MO c L m0 (if eb_nc w < 4 then et_oCounsel c L (et_te c L p) w else .inl (et_sb c L p))) := by
  obtain ⟨b, hb⟩ : ∃ b, b = eb_b w := ⟨_, rfl⟩
  obtain ⟨n, hn⟩ : ∃ n, n = eb_nc w := ⟨_, rfl⟩
  have hb6 : b ≤ 6 := by rw [hb]; exact hC.2.1.1.2
  have hn4 : n ≤ 4 := by rw [hn]; exact hC.2.1.2.1.2
  have e0 : w 0 = nI b := by rw [hC.2.1.1.1, hb]
  have e1 : w 1 = nI n := by rw [hC.2.1.2.1.1, hn]
  unfold f_X12_readCounsel
  rw [eb_counsel, eb_clR, hw, e1, ← hn]
  by_cases hn3 : n < 4
  · rw [if_neg (show ¬ nI n = 4 from (show ¬ nI n = nI 4 by rw [nI_eq (by omega) (by decide)]; omega)), if_pos hn3]
    unfold et_oCounsel
    rw [← hb, ← hn]
    refine eb_cl (et_mBl hL hM) fun r4 m3 hm3 => ?_
    obtain ⟨k1, b1, b2⟩ := hm3
    dsimp only at k1 b1 b2
    have f3 := et_MF_F hf k1
    have w3 : m3 273 = w := by rw [et_F_w k1, hw]
    obtain ⟨s1, s2, _, _⟩ := et_sb_spec (c := c) hL hM.1
    obtain ⟨s, hs⟩ : ∃ s, s = et_sb c L (et_te c L p) := ⟨_, rfl⟩
    obtain ⟨t, ht⟩ : ∃ t, t = et_te c L (et_te c L p) := ⟨_, rfl⟩
    obtain ⟨e, ee⟩ : ∃ e, e = (if et_kd c L s = 2 then t else s) := ⟨_, rfl⟩
    have htL : t ≤ L := by rw [ht]; exact (et_te_le hL hM.1).2.1
    have hen : et_en c L s = t := by rw [ht, hs]; rfl
    rw [← hs] at s2 b1 b2 ⊢
    rw [← ht]
    have he : s ≤ e ∧ e ≤ L ∧ (∀ q, s ≤ q → q < e → et_kd c L q = 2) ∧ et_kd c L e ≠ 2 := by
      by_cases hk : et_kd c L s = 2
      · obtain ⟨w1, w2, w3, w4⟩ := et_en_w (c := c) (b := s) hL (Or.inr hk)
        rw [if_pos hk] at ee
        rw [hen] at w1 w2 w3 w4
        rw [ee]
        rw [hk] at w3 w4
        exact ⟨Nat.le_of_lt w1, w2, w3, w4⟩
      · rw [if_neg hk] at ee
        rw [ee]
        exact ⟨Nat.le_refl _, s2, fun q a b => by omega, hk⟩
    refine eb_bind (P := fun z => z.1 = nI (e - s) ∧ et_MF m0 z.2 ∧ z.2 272 12 = nI s ∧ z.2 272 10 = nI e ∧ ∀ j, z.2 273 j = if 50 + 6 * n ≤ j ∧ j < 50 + 6 * n + min (e - s) b then nI (c (s + (j - 50 - 6 * n)) - 48) else w j) (eb_while (fun k x => ∃ q, k = L - q ∧ s ≤ q ∧ q ≤ e ∧ x.1 = nI (q - s) ∧ et_MF m0 x.2 ∧ x.2 272 12 = nI s ∧ x.2 272 10 = nI q ∧ ∀ j, x.2 273 j = if 50 + 6 * n ≤ j ∧ j < 50 + 6 * n + min (q - s) b then nI (c (s + (j - 50 - 6 * n)) - 48) else w j) ?_ ea_fuel (L - s) _ (by unfold ea_fuel; omega) ⟨s, rfl, Nat.le_refl _, he.1, by rw [Nat.sub_self]; rfl, f3, b1, b2, fun j => by dsimp only; rw [w3, if_neg (by omega)]⟩) fun z hz => ?_
    · rintro k ⟨x, mm⟩ ⟨q, rfl, q1, q2, x0, x1, x2, x3, x4⟩
      dsimp only at x0 x1 x2 x3 x4
      subst x0
      have eT : et_T2 c mm := fun j hj => by rw [x1 278 j (by omega) (by decide)]; exact hT0 j hj
      unfold f_X12_readCounsel_s18
      dsimp only
      rw [show f_X12_isAt 48 57 mm = some (if q < L ∧ 48 ≤ c q ∧ c q ≤ 57 then 1 else 0, mm) from et_isAt hL (by decide) (by decide) eT x3 (by rw [x1 272 11 (by omega) (by decide)]; exact h0) (by omega), eb_clR]
      by_cases hq : q = e
      · rw [if_neg (show ¬ (q < L ∧ 48 ≤ c q ∧ c q ≤ 57) from fun z => he.2.2.2 (by rw [← hq]; exact et_kd2.mpr z)), if_pos rfl]
        rw [hq] at x3 x4
        exact eb_some ⟨by rw [hq], x1, x2, x3, x4⟩
      · have hd := et_kd2.mp (he.2.2.1 q q1 (by omega))
        have hbm : mm 273 0 = nI b := by rw [x4, if_neg (by omega)]; exact e0
        rw [if_pos hd, if_neg (by decide), eb_birds, eb_clR, hbm]
        have hj : ∀ mx, mx 272 10 = nI q → f_X12_readCounsel_j59 (nI n) (nI (q - s)) mx = some (.inl (nI (q - s + 1), ea_st mx 272 10 (nI (q + 1)))) := fun mx y3 => by
          unfold f_X12_readCounsel_j59
          rw [eb_bdR, y3, eb_bdR, nI_1, nI_1]
        have hk : ∀ mx, et_MF m0 mx → mx 272 12 = nI s → (∀ j, mx 273 j = if 50 + 6 * n ≤ j ∧ j < 50 + 6 * n + min (q + 1 - s) b then nI (c (s + (j - 50 - 6 * n)) - 48) else w j) → ∃ n', n' < L - q ∧ ∃ q', n' = L - q' ∧ s ≤ q' ∧ q' ≤ e ∧ ((nI (q - s + 1), ea_st mx 272 10 (nI (q + 1))) : Int32 × ea_M).1 = nI (q' - s) ∧ et_MF m0 ((nI (q - s + 1), ea_st mx 272 10 (nI (q + 1))) : Int32 × ea_M).2 ∧ ((nI (q - s + 1), ea_st mx 272 10 (nI (q + 1))) : Int32 × ea_M).2 272 12 = nI s ∧ ((nI (q - s + 1), ea_st mx 272 10 (nI (q + 1))) : Int32 × ea_M).2 272 10 = nI q' ∧ ∀ j, ((nI (q - s + 1), ea_st mx 272 10 (nI (q + 1))) : Int32 × ea_M).2 273 j = if 50 + 6 * n ≤ j ∧ j < 50 + 6 * n + min (q' - s) b then nI (c (s + (j - 50 - 6 * n)) - 48) else w j := fun mx y1 y2 y4 => by
          refine ⟨L - (q + 1), by omega, q + 1, rfl, by omega, by omega, by show nI (q - s + 1) = _; rw [show q + 1 - s = q - s + 1 by omega], fun b' i h1 h2 => ?_, ?_, eb_st mx 272 10 (nI (q + 1)), fun j => ?_⟩
          · show ea_st mx 272 10 _ b' i = _
            rw [eb_sts, if_neg (by omega)]; exact y1 b' i h1 h2
          · dsimp only
            rw [eb_stI _ _ _ (by decide)]; exact y2
          · dsimp only
            rw [eb_stA _ _ _ (by decide)]; exact y4 j
        by_cases hbq : b ≤ q - s
        · rw [if_pos (nI_le hbq (by omega))]
          rw [hj mm x3]
          exact eb_some (hk mm x1 x2 (fun j => by rw [x4 j, Nat.min_eq_right hbq, Nat.min_eq_right (by omega)]))
        · rw [if_neg (nI_ge (by omega) (by omega)), eb_stockAt, eb_clR, eb_bdR, x3, eb_gN (by omega) (by decide), nI_clamp (by omega), (eT q (by omega)).2.1 (by omega), eb_bdR, eb_gN (by omega) (by decide), nI_clamp (by omega), eb_bdR, show nI (c q) - 48 = nI (c q - 48) from pk_sub (b := 48) hd.2.1]
          rw [hj _ (by rw [eb_stA _ _ _ (by decide)]; exact x3)]
          refine eb_some (hk _ (et_MF_st x1 _ _) ?_ fun j => ?_)
          · rw [eb_stA _ _ _ (by decide)]; exact x2
          · rw [eb_sts]
            by_cases hj : j = 50 + 6 * n + (q - s)
            · rw [if_pos ⟨rfl, hj⟩, if_pos (by omega), show s + (j - 50 - 6 * n) = q by omega]
            · rw [if_neg (fun z => hj z.2), x4]
              by_cases hj2 : 50 + 6 * n ≤ j ∧ j < 50 + 6 * n + min (q - s) b
              · rw [if_pos hj2, if_pos (by omega)]
              · rw [if_neg hj2, if_neg (by omega)]
    · obtain ⟨x, mz⟩ := z
      obtain ⟨z0, z1, z2, z3, z4⟩ := hz
      dsimp only at z0 z1 z2 z3 z4
      subst z0
      dsimp only
      have hbm : mz 273 0 = nI b := by rw [z4, if_neg (by omega)]; exact e0
      have hnm : mz 273 1 = nI n := by rw [z4, if_neg (by omega)]; exact e1
      by_cases hk : et_kd c L s = 2
      · rw [if_pos hk] at ee
        have w1 : s < e := by
          have := (et_en_w (c := c) (b := s) hL (Or.inr hk)).1
          omega
        rw [if_neg (show ¬ nI (e - s) = 0 from (show ¬ nI (e - s) = nI 0 by rw [nI_eq (by omega) (by decide)]; omega)), eb_birds, eb_clR, hbm]
        by_cases hl : t = s + b
        · rw [if_pos (by rw [show e - s = b by omega]), if_pos ⟨hk, hl⟩]
          refine eb_bdV hnm (eb_bd (eb_some (et_MO1 (et_MF_st z1 _ _) (et_M_st (et_M_at hL htL (by rw [← ee]; exact z3) (by rw [z1 272 11 (by omega) (by decide)]; exact h0) (fun j hj => by rw [z1 278 j (by omega) (by decide)]; exact hT0 j hj)) _ _) ?_)))
          rw [et_stw, nI_1]
          funext j
          unfold et_wC
          by_cases hj : j = 1
          · rw [if_pos hj, hj, et_us]
          · rw [if_neg hj, et_u hj, z4 j, Nat.min_eq_right (by omega)]
        · rw [if_neg (by rw [nI_eq (by omega) (by omega)]; omega), if_neg (fun z => hl z.2)]
          exact eb_some (et_MO0 z1 z2)
      · rw [if_neg hk] at ee
        rw [if_pos (show nI (e - s) = 0 from (show nI (e - s) = nI 0 by rw [ee, Nat.sub_self])), if_neg (fun z => hk z.1)]
        exact eb_some (et_MO0 z1 z2)
  · rw [if_pos (show nI n = 4 from (show nI n = nI 4 by rw [show n = 4 by omega])), if_neg hn3]
    exact eb_some (et_MO0 hf h12)
theorem et_mCase (hL : L ≤ 400) (hM : et_M c L m (et_te c L p)) (h12 : m 272 12 = nI (et_sb c L p)) (hw : m 273 = w) (hC : eb_C cc w) (hf : et_MF m0 m) : eb_W (f_X12_readCase m) (et_MO c L m0 (if eb_k w < 12 then et_oCase c L (et_te c L p) w else .inl (et_sb c L p))) := by
  obtain ⟨b, hb⟩ : ∃ b, b = eb_b w := ⟨_, rfl⟩
  obtain ⟨n, hn⟩ : ∃ n, n = eb_nc w := ⟨_, rfl⟩
  obtain ⟨k, hk⟩ : ∃ k, k = eb_k w := ⟨_, rfl⟩
  have hb6 : b ≤ 6 := by rw [hb]; exact hC.2.1.1.2
  have hn4 : n ≤ 4 := by rw [hn]; exact hC.2.1.2.1.2
  have hk12 : k ≤ 12 := by rw [hk]; exact hC.2.1.2.2.1.2
  have e0 : w 0 = nI b := by rw [hC.2.1.1.1, hb]
  have e1 : w 1 = nI n := by rw [hC.2.1.2.1.1, hn]
  have e2 : w 2 = nI k := by rw [hC.2.1.2.2.1.1, hk]
  unfold f_X12_readCase
  rw [eb_cases, eb_clR, hw, e2, ← hk]
  by_cases hk11 : k < 12
  · rw [if_neg (show ¬ nI k = 12 from (show ¬ nI k = nI 12 by rw [nI_eq (by omega) (by decide)]; omega)), if_pos hk11, eb_counsel, eb_clR, hw, e1]
    unfold et_oCase
    rw [← hb, ← hn, ← hk]
    refine et_mNum hL hM (fun hn m5 k1 k2 => ?_) (fun f hnf m5 k1 k2 _ => ?_)
    · rw [if_neg (by decide), et_B0 hn]
      unfold f_X12_readCase_j44
      rw [if_pos (by decide)]
      exact eb_some (et_MO0 (et_MF_F hf k1) k2)
    obtain ⟨fa, _, _, _⟩ := et_num_some hL hM.1 hnf
    have f5 := et_MF_F hf k1
    have w5 : m5 273 = w := by rw [et_F_w k1, hw]
    rw [if_pos (et_pos fa), et_B1 hnf, eb_counsel, eb_clR, w5, e1]
    refine et_mNum hL k2 (fun hn m9 g1 g2 => ?_) (fun s hns m9 g1 g2 g3 => ?_)
    · rw [et_B0 hn]
      unfold f_X12_readCase_j44
      rw [if_pos (by decide)]
      exact eb_some (et_MO0 (et_MF_F f5 g1) g2)
    obtain ⟨sa, _, _, _⟩ := et_num_some hL k2.1 hns
    have f9 := et_MF_F f5 g1
    have w9 : m9 273 = w := by rw [et_F_w g1, w5]
    rw [et_B1 hns]
    unfold f_X12_readCase_j44
    rw [if_neg (nI_pos (by omega))]
    by_cases hsf : s = f
    · rw [if_pos (by rw [hsf]), if_pos hsf]
      exact eb_some (et_MO0 f9 g3)
    rw [if_neg (by rw [nI_eq (by omega) (by omega)]; exact hsf), if_neg hsf]
    refine et_mLet hL g2 fun r16 m15 l1 l2 => ?_
    have f15 := et_MF_F f9 l1
    have w15 : m15 273 = w := by rw [et_F_w l1, w9]
    rw [et_isWordE (j := 53) (j' := 7) hL (by decide) (by decide +kernel) rfl l2, eb_clR]
    have j81 : ∀ x0 x1 x2 m15, x2 < 0 → f_X12_readCase_j81 (nI k) x0 x1 x2 m15 = some (0, m15) := fun x0 x1 x2 m15 hx => by
      unfold f_X12_readCase_j81
      rw [if_neg (Int32.not_le.mpr hx)]
    cases hw7 : et_w c L (et_te c L (et_te c L (et_te c L p))) 7 with
    | false =>
      rw [show eb_b2 false = 0 from rfl, if_pos rfl, et_I0 rfl, j81 _ _ _ _ (by decide)]
      exact eb_some (et_MO0 f15 l2.2.1)
    | true =>
    rw [show eb_b2 true = 1 from rfl, if_neg (by decide), et_I1 rfl, eb_birds, eb_clR, w15, e0]
    refine et_mTold hL hb6 (et_ML_w hL l2 hw7) (fun hn m40 t1 t2 => ?_) (fun x hnx m40 t1 t2 => ?_)
    · rw [j81 _ _ _ _ (by decide), et_B0 hn]
      exact eb_some (et_MO0 (et_MF_F f15 t1) t2)
    obtain ⟨y, _, y2, y3⟩ := et_let_rg hL hb6 hnx
    have y4 : 2 ^ b ≤ 64 := Nat.pow_le_pow_right (n := 2) (by decide) hb6
    have f40 := et_MF_F f15 t1
    have w40 : m40 273 = w := by rw [et_F_w t1, w15]
    rw [et_B1 hnx]
    unfold f_X12_readCase_j81
    rw [if_pos (by rw [y3]; exact et_pos (by omega)), show f_X12_caseAt (nI k) 0 m40 = some (nI (74 + 4 * k + 0), m40) from eb_caseAt k 0 m40, eb_clR, eb_gN (by omega) (by decide), nI_clamp (by omega)]
    refine eb_bdE fun m26 e26 => ?_
    rw [show f_X12_caseAt (nI k) 1 m26 = some (nI (74 + 4 * k + 1), m26) from eb_caseAt k 1 m26, eb_clR, eb_gN (by omega) (by decide), nI_clamp (by omega)]
    refine eb_bdE fun m29 e29 => ?_
    rw [show f_X12_caseAt (nI k) 2 m29 = some (nI (74 + 4 * k + 2), m29) from eb_caseAt k 2 m29, eb_clR, eb_gN (by omega) (by decide), nI_clamp (by omega)]
    refine eb_bdE fun m32 e32 => ?_
    rw [show f_X12_caseAt (nI k) 3 m32 = some (nI (74 + 4 * k + 3), m32) from eb_caseAt k 3 m32, eb_clR, eb_gN (by omega) (by decide), nI_clamp (by omega)]
    refine eb_bdE fun m35 e35 => ?_
    have f35 : et_MF m0 m35 := by rw [e35, e32, e29, e26]; exact et_MF_st (et_MF_st (et_MF_st (et_MF_st f40 _ _) _ _) _ _) _ _
    have M35 := et_M_ste (et_M_ste (et_M_ste (et_M_ste t2 e26) e29) e32) e35
    have w35 : m35 273 = upd (upd (upd (upd w (74 + 4 * k) (nI f)) (75 + 4 * k) (nI s)) (76 + 4 * k) x) (77 + 4 * k) 0 := by rw [e35, et_stw, e32, et_stw, e29, et_stw, e26, et_stw, w40, show 74 + 4 * k + 0 = 74 + 4 * k from rfl, show 74 + 4 * k + 1 = 75 + 4 * k by omega, show 74 + 4 * k + 2 = 76 + 4 * k by omega, show 74 + 4 * k + 3 = 77 + 4 * k by omega]
    clear e26 e29 e32 e35
    refine eb_bdV (w := nI k) (by rw [w35, et_u (by omega), et_u (by omega), et_u (by omega), et_u (by omega)]; exact e2) (eb_bd (eb_some (et_MO1 (et_MF_st f35 _ _) (et_M_st M35 _ _) ?_)))
    rw [et_stw, w35, nI_1]
    rfl
  · rw [if_pos (show nI k = 12 from (show nI k = nI 12 by rw [show k = 12 by omega])), if_neg hk11]
    exact eb_some (et_MO0 hf h12)
theorem et_gzM {x : Option (Int32 × ea_M)} {o : et_Out} (h : eb_W x (et_MO c L m0 o)) : eb_W (ea_cl x fun r z => ea_gz r (some (r, z))) (et_MO c L m0 o) := by
  refine eb_bind h fun z hz => ?_
  have h01 : z.1 = 0 ∨ z.1 = 1 := by
    cases o with
    | inl f => exact Or.inl hz.2.1
    | inr q => exact Or.inr hz.2.1
  obtain ⟨r, mm⟩ := z
  dsimp only at h01
  rcases h01 with rfl | rfl
  · exact eb_some hz
  · exact eb_some hz
theorem et_ifM {x : Option (Int32 × ea_M)} {o : et_Out} (h : eb_W x (et_MO c L m0 o)) : eb_W (ea_cl x fun r z => if r = 0 then some (0, z) else some (1, z)) (et_MO c L m0 o) := by
  refine eb_bind h fun z hz => ?_
  have h01 : z.1 = 0 ∨ z.1 = 1 := by
    cases o with
    | inl f => exact Or.inl hz.2.1
    | inr q => exact Or.inr hz.2.1
  obtain ⟨r, mm⟩ := z
  dsimp only at h01
  rcases h01 with rfl | rfl
  · exact eb_some hz
  · exact eb_some hz
theorem et_mLine (hL : L ≤ 400) (hM : et_ML c L m p) (hw : m 273 = w) (hC : eb_C cc w) (hf : et_MF m0 m) (h0 : m0 272 11 = nI L) (hT0 : et_T2 c m0) : eb_W (f_X12_readCourtLine m) (et_MO c L m0 (et_cl c L p w)) := by
  unfold f_X12_readCourtLine et_cl
  rw [et_isWordE (j := 46) (j' := 0) hL (by decide) (by decide +kernel) rfl hM, eb_clR]
  cases hw0 : et_w c L p 0 with
  | true =>
    rw [show eb_b2 true = 1 from rfl, if_neg (by decide), if_pos rfl]
    exact et_gzM (et_mBird hL (et_ML_w hL hM hw0) hM.2.1 hw hC hf)
  | false =>
    rw [show eb_b2 false = 0 from rfl, if_pos rfl, if_neg (by decide), et_isWordE (j := 51) (j' := 5) hL (by decide) (by decide +kernel) rfl hM, eb_clR]
    cases hw5 : et_w c L p 5 with
    | true =>
      rw [show eb_b2 true = 1 from rfl, if_neg (by decide), if_pos rfl]
      exact et_gzM (et_mCounsel hL (et_ML_w hL hM hw5) hM.2.1 hw hC hf h0 hT0)
    | false =>
      rw [show eb_b2 false = 0 from rfl, if_pos rfl, if_neg (by decide), et_isWordE (j := 52) (j' := 6) hL (by decide) (by decide +kernel) rfl hM, eb_clR]
      cases hw6 : et_w c L p 6 with
      | true =>
        rw [show eb_b2 true = 1 from rfl, if_neg (by decide), if_pos rfl]
        exact et_gzM (et_mCase hL (et_ML_w hL hM hw6) hM.2.1 hw hC hf)
      | false =>
        rw [show eb_b2 false = 0 from rfl, if_pos rfl, if_neg (by decide), et_isWordE (j := 54) (j' := 8) hL (by decide) (by decide +kernel) rfl hM, eb_clR]
        cases hw8 : et_w c L p 8 with
        | true =>
          rw [show eb_b2 true = 1 from rfl, if_neg (by decide), if_pos rfl]
          exact et_gzM (et_mTower hL (et_ML_w hL hM hw8) hw hf)
        | false =>
          rw [show eb_b2 false = 0 from rfl, if_pos rfl, if_neg (by decide), et_isWordE (j := 56) (j' := 10) hL (by decide) (by decide +kernel) rfl hM, eb_clR]
          cases hw10 : et_w c L p 10 with
          | true =>
            rw [show eb_b2 true = 1 from rfl, if_neg (by decide), if_pos rfl]
            exact et_gzM (et_mYard hL (et_ML_w hL hM hw10) hw hf)
          | false =>
            rw [show eb_b2 false = 0 from rfl, if_pos rfl, if_neg (by decide), et_isWordE (j := 58) (j' := 12) hL (by decide) (by decide +kernel) rfl hM, eb_clR]
            cases hw12 : et_w c L p 12 with
            | true =>
              rw [show eb_b2 true = 1 from rfl, if_neg (by decide), if_pos rfl]
              exact et_gzM (et_mWind hL (et_ML_w hL hM hw12) hw hf)
            | false =>
              rw [show eb_b2 false = 0 from rfl, if_pos rfl, if_neg (by decide), et_isWordE (j := 61) (j' := 15) hL (by decide) (by decide +kernel) rfl hM, eb_clR]
              cases hw15 : et_w c L p 15 with
              | true =>
                rw [show eb_b2 true = 1 from rfl, if_neg (by decide), et_I1 rfl]
                exact et_ifM (et_mHour hL (et_ML_w hL hM hw15) hw hf)
              | false =>
                rw [show eb_b2 false = 0 from rfl, if_pos rfl, et_I0 rfl]
                exact eb_some (et_MO0 hf hM.2.1)
end COURTM
