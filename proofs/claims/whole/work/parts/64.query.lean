section QUERY
variable {m : ea_M}
theorem eb_p_bird (p q : Int32) (h : eb_I m) : eb_P eb_I (f_L_bird p q m) (f_X12_bird p q) := by
  obtain ⟨n, hn, e1, e2, e3⟩ := eb_IB h
  rcases eb_ix (p := p) (x := nI n) rfl (by omega) with hp | ⟨b, hb, rfl⟩
  · refine eb_Pk1 h (k := 1) (v := 0) ?_ ?_ (by decide)
    · simp only [f_L_bird, f_X11_bird, eb_needBird, e2, hp, if_false, eb_cx1, if_true]
    · simp only [f_X12_bird, eb_bdR, eb_noBird p (show (ea_st m 272 0 0) 273 0 = nI n by rw [eb_stA _ _ _ (by decide)]; exact e1) (by omega), eb_clR, hp, if_false, eb_throwsIf1]
      rfl
  · have hp := eb_ixT hb (show n < 2 ^ 31 by omega)
    rcases eb_ix (p := q) (x := nI 4) rfl (by omega) with hq | ⟨x, hx, rfl⟩
    · have q0 : ¬ q = 0 := fun e => hq (by rw [e]; decide)
      have q1 : ¬ q = 1 := fun e => hq (by rw [e]; decide)
      have q2 : ¬ q = 2 := fun e => hq (by rw [e]; decide)
      have q3 : ¬ q = 3 := fun e => hq (by rw [e]; decide)
      refine eb_Pk1 h (k := 2) (v := 0) ?_ ?_ (by decide)
      · simp only [f_L_bird, f_X11_bird, eb_needBird, e2, hp, and_self, if_true, eb_cx0, q0, q1, q2, q3, if_false, eb_cx4]
        rfl
      · simp only [f_X12_bird, eb_bdR, eb_noBird (nI b) (show (ea_st m 272 0 0) 273 0 = nI n by rw [eb_stA _ _ _ (by decide)]; exact e1) (by omega), eb_clR, hp, and_self, if_true, eb_throwsIf0, eb_inM q 3 _ (n := 3) rfl (by decide), hq, if_false, f_X12_bird_j33, eb_throwsIf1]
        rfl
    · have hq := eb_ixT hx (show 4 < 2 ^ 31 by omega)
      have h4 := h.1.1.2.2.2.1 b (by rw [e3]; exact hb)
      refine eb_Pv1 h (v := m 273 (26 + 4 * b + x)) ?_ ?_
      · simp only [f_L_bird, f_X11_bird, eb_needBird, e2, hp, and_self, if_true, eb_cx0]
        obtain rfl | rfl | rfl | rfl : x = 0 ∨ x = 1 ∨ x = 2 ∨ x = 3 := by omega
        · rw [if_pos (show nI 0 = 0 from rfl), eb_gN (by omega) (by omega), eb_bdR, nI_clamp (by omega), show m 4 b = m 273 (26 + 4 * b + 0) from h4.1]; rfl
        · rw [if_neg (show ¬ nI 1 = 0 by decide), if_pos (show nI 1 = 1 from rfl), eb_gN (by omega) (by omega), eb_bdR, nI_clamp (by omega), show m 5 b = m 273 (26 + 4 * b + 1) by rw [show 26 + 4 * b + 1 = 27 + 4 * b by omega]; exact h4.2.1]; rfl
        · rw [if_neg (show ¬ nI 2 = 0 by decide), if_neg (show ¬ nI 2 = 1 by decide), if_pos (show nI 2 = 2 from rfl), eb_gN (by omega) (by omega), eb_bdR, nI_clamp (by omega), show m 6 b = m 273 (26 + 4 * b + 2) by rw [show 26 + 4 * b + 2 = 28 + 4 * b by omega]; exact h4.2.2.1]; rfl
        · rw [if_neg (show ¬ nI 3 = 0 by decide), if_neg (show ¬ nI 3 = 1 by decide), if_neg (show ¬ nI 3 = 2 by decide), if_pos (show nI 3 = 3 from rfl), eb_gN (by omega) (by omega), eb_bdR, nI_clamp (by omega), show m 7 b = m 273 (26 + 4 * b + 3) by rw [show 26 + 4 * b + 3 = 29 + 4 * b by omega]; exact h4.2.2.2.1]; rfl
      · simp only [f_X12_bird, eb_bdR, eb_noBird (nI b) (show (ea_st (ea_st m 287 0 (m 273 (26 + 4 * b + x))) 272 0 0) 273 0 = nI n by rw [eb_stA _ _ _ (by decide), eb_stA _ _ _ (by decide)]; exact e1) (by omega), eb_clR, hp, and_self, if_true, eb_throwsIf0, eb_inM (nI x) 3 _ (n := 3) rfl (by decide), hq, f_X12_bird_j33, eb_ofBird (show 26 + 4 * b + x < 2180 by omega), eb_stA _ _ _ (show 273 ≠ 272 by decide), eb_stA _ _ _ (show 273 ≠ 287 by decide)]
        rfl
theorem eb_p_stock (p q : Int32) (h : eb_I m) : eb_P eb_I (f_L_stock p q m) (f_X12_stock p q) := by
  obtain ⟨n, hn, e1, e2, e3⟩ := eb_IB h
  obtain ⟨k, hk, f1, f2, f3⟩ := eb_IN h
  rcases eb_ix (p := p) (x := nI k) rfl (by omega) with hp | ⟨c, hc, rfl⟩
  · refine eb_Pk1 h (k := 1) (v := 0) ?_ ?_ (by decide)
    · simp only [f_L_stock, f_X11_stock, eb_needCounsel, f2, hp, if_false, eb_cx1, if_true]
    · simp only [f_X12_stock, eb_bdR, eb_noCounsel p (show (ea_st m 272 0 0) 273 1 = nI k by rw [eb_stA _ _ _ (by decide)]; exact f1) (by omega), eb_clR, hp, if_false, f_X12_stock_j22, f_X12_stock_j27, eb_throwsIf1]
      rfl
  · have hp := eb_ixT hc (show k < 2 ^ 31 by omega)
    rcases eb_ix (p := q) (x := nI n) rfl (by omega) with hq | ⟨b, hb, rfl⟩
    · refine eb_Pk1 h (k := 1) (v := 0) ?_ ?_ (by decide)
      · simp only [f_L_stock, f_X11_stock, eb_needCounsel, f2, hp, and_self, if_true, eb_cx0, eb_needBird, e2, hq, if_false, eb_cx1]
      · simp only [f_X12_stock, eb_bdR, eb_noCounsel (nI c) (show (ea_st m 272 0 0) 273 1 = nI k by rw [eb_stA _ _ _ (by decide)]; exact f1) (by omega), eb_noBird q (show (ea_st m 272 0 0) 273 0 = nI n by rw [eb_stA _ _ _ (by decide)]; exact e1) (by omega), eb_clR, hp, and_self, if_true, hq, if_false, f_X12_stock_j22, f_X12_stock_j27, eb_throwsIf1]
        rfl
    · have hq := eb_ixT hb (show n < 2 ^ 31 by omega)
      have h5 := (h.1.1.2.2.2.2.1 c b (by omega) (by omega)).1
      refine eb_Pv1 h (v := m 273 (50 + 6 * c + b)) ?_ ?_
      · simp only [f_L_stock, f_X11_stock, eb_needCounsel, f2, hp, and_self, if_true, eb_cx0, eb_needBird, e2, hq, eb_held 8 (show 6 * c + b < 24 by omega), eb_clR, eb_bdR]
        rw [show m (8 + 1) (6 * c + b) = m 273 (50 + 6 * c + b) from h5]
      · simp only [f_X12_stock, eb_bdR, eb_noCounsel (nI c) (show (ea_st (ea_st m 287 0 (m 273 (50 + 6 * c + b))) 272 0 0) 273 1 = nI k by rw [eb_stA _ _ _ (by decide), eb_stA _ _ _ (by decide)]; exact f1) (by omega), eb_noBird (nI b) (show (ea_st (ea_st m 287 0 (m 273 (50 + 6 * c + b))) 272 0 0) 273 0 = nI n by rw [eb_stA _ _ _ (by decide), eb_stA _ _ _ (by decide)]; exact e1) (by omega), eb_clR, hp, and_self, if_true, hq, f_X12_stock_j27, eb_throwsIf0, eb_stockOf (show 50 + 6 * c + b < 2180 by omega), eb_stA _ _ _ (show 273 ≠ 272 by decide), eb_stA _ _ _ (show 273 ≠ 287 by decide)]
theorem eb_p_wind (p : Int32) (h : eb_I m) : eb_P eb_I (f_L_wind p m) (f_X12_wind p) := by
  rcases eb_ix (p := p) (x := nI 13) rfl (by omega) with hp | ⟨l, hl, rfl⟩
  · refine eb_Pk1 h (k := 1) (v := 0) ?_ ?_ (by decide)
    · simp only [f_L_wind, f_X11_wind, eb_needLevel, hp, if_false, eb_cx1, if_true]
    · simp only [f_X12_wind, eb_bdR, eb_noLevel, eb_clR, hp, if_false, eb_throwsIf1]
      rfl
  · have hp := eb_ixT hl (show 13 < 2 ^ 31 by omega)
    have e : (13 : Int32) + nI l = nI (13 + l) := nI_add 13 l
    refine eb_Pv1 h (v := m 273 (13 + l)) ?_ ?_
    · simp only [f_L_wind, f_X11_wind, eb_needLevel, hp, and_self, if_true, eb_cx0, eb_gN hl (show 13 < 2147483648 by omega), eb_bdR, nI_clamp (show l < 2 ^ 31 by omega)]
      rw [show m 3 l = m 273 (13 + l) from h.1.1.2.2.1 l hl]
    · simp only [f_X12_wind, eb_bdR, eb_noLevel, eb_clR, hp, and_self, if_true, eb_throwsIf0, e, eb_gN (show 13 + l < 2180 by omega) (show 2180 < 2147483648 by omega), nI_clamp (show 13 + l < 2 ^ 31 by omega), eb_stA _ _ _ (show 273 ≠ 272 by decide), eb_stA _ _ _ (show 273 ≠ 287 by decide)]
theorem eb_p_log (p q : Int32) (h : eb_I m) : eb_P eb_I (f_L_log p q m) (f_X12_log p q) := by
  obtain ⟨n, hn, e1, e2, e3⟩ := eb_IS h
  rcases eb_ix (p := q) (x := nI 6) rfl (by omega) with hq | ⟨x, hx, rfl⟩
  · refine eb_Pk1 h (k := 1) (v := 0) ?_ ?_ (by decide)
    · unfold f_L_log f_X11_log
      by_cases q0 : q < 0
      · rw [if_pos q0]; rfl
      · rw [if_neg q0, if_neg (show ¬ q < 6 from fun z => hq ⟨Int32.not_lt.mp q0, z⟩)]; rfl
    · simp only [f_X12_log, eb_bdR, eb_inM q 5 _ (n := 5) rfl (by decide), eb_clR, hq, if_false, if_true, f_X12_log_j20, eb_throwsIf1]
      rfl
  · have hq := eb_ixT hx (show 6 < 2 ^ 31 by omega)
    have x0 : ¬ nI x < 0 := nI_pos (by omega)
    have x6 : nI x < 6 := hq.2
    have o1 : ¬ (1 : Int32) = 0 := by decide
    rcases eb_ix (p := p) (x := nI n) rfl (by omega) with hp | ⟨g, hg, rfl⟩
    · refine eb_Pv1 h (v := -1) ?_ ?_
      · simp only [f_L_log, f_X11_log, x0, x6, if_false, if_true, f_X6_told, eb_bdR, e2]
        by_cases p0 : p < 0
        · rw [if_pos p0]; rfl
        · rw [if_neg p0, if_neg (fun z => hp ⟨Int32.not_lt.mp p0, z⟩)]; rfl
      · simp only [f_X12_log, eb_bdR, eb_inM (nI x) 5 _ (n := 5) rfl (by decide), eb_clR, hq, and_self, if_true, o1, if_false, f_X12_log_j20, eb_throwsIf0, eb_stA _ _ _ (show 273 ≠ 272 by decide), eb_stA _ _ _ (show 273 ≠ 287 by decide), e1, eb_inN p _ (show n < 2 ^ 30 by omega), hp]
    · have hp := eb_ixT hg (show n < 2 ^ 31 by omega)
      obtain ⟨t, ht, l1, l2⟩ := h.1.1.2.2.2.2.2.2
      have l3 := l2 g x (by rw [e3]; exact hg) hx
      have a1 : nI t + 60 - nI g = nI (t + 60 - g) := by
        show nI t + nI 60 - nI g = _
        rw [nI_add, pk_sub (by omega)]
      have a2 : nI (t + 60 - g) - nI (t + 60 - g) / 60 * 60 = nI ((t + 60 - g) % 60) := pk_rem (d := 60) (by omega) (by decide) (by decide)
      have a3 : nI ((t + 60 - g) % 60) * 6 + nI x = nI ((t + 60 - g) % 60 * 6 + x) := by
        show nI _ * nI 6 + nI x = _
        rw [pk_mul, nI_add]
      refine eb_Pv1 h (v := m 273 (122 + 6 * g + x)) ?_ ?_
      · simp only [f_L_log, f_X11_log, x0, x6, if_false, if_true, f_X6_told, eb_bdR, e2, nI_pos (show g < 2 ^ 31 by omega), hp, show m 14 1 = nI t from l1, a1, a2, a3, eb_gN (show (t + 60 - g) % 60 * 6 + x < 360 by omega) (show 360 < 2147483648 by omega), nI_clamp (show (t + 60 - g) % 60 * 6 + x < 2 ^ 31 by omega), eb_clR, eb_cx0]
        rw [show m (14 + 1) ((t + 60 - g) % 60 * 6 + x) = m 273 (122 + 6 * g + x) from l3]
      · simp only [f_X12_log, eb_bdR, eb_inM (nI x) 5 _ (n := 5) rfl (by decide), eb_clR, hq, and_self, if_true, o1, if_false, f_X12_log_j20, eb_throwsIf0, eb_stA _ _ _ (show 273 ≠ 272 by decide), eb_stA _ _ _ (show 273 ≠ 287 by decide), e1, eb_inN (nI g) _ (show n < 2 ^ 30 by omega), hp, eb_ofLog (show 122 + 6 * g + x < 2180 by omega)]
end QUERY
