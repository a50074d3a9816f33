section WAYS
variable {m m1 mm z : ea_M} {w : Nat → Int32}
/-- what the reference's reckoning leaves alone -/
def eb_MZ (m m' : ea_M) : Prop := (∀ r, r ≠ 272 → r ≠ 280 → r ≠ 281 → r ≠ 282 → r ≠ 283 → r ≠ 286 → m' r = m r) ∧ ∀ i, ¬ (18 ≤ i ∧ i ≤ 21) → i ≠ 25 → i ≠ 26 → m' 272 i = m 272 i
theorem eb_MZ_MS (h : eb_MS m mm) : eb_MZ m mm := ⟨fun r q1 q2 q3 q4 q5 _ => h.1 r q1 q2 q3 q4 q5, h.2⟩
theorem eb_MZ_refl (m : ea_M) : eb_MZ m m := ⟨fun _ _ _ _ _ _ _ => rfl, fun _ _ _ _ => rfl⟩
theorem eb_MZ_trans {m1 m2 m3 : ea_M} (h1 : eb_MZ m1 m2) (h2 : eb_MZ m2 m3) : eb_MZ m1 m3 := ⟨fun r q1 q2 q3 q4 q5 q6 => (h2.1 r q1 q2 q3 q4 q5 q6).trans (h1.1 r q1 q2 q3 q4 q5 q6), fun i q1 q2 q3 => (h2.2 i q1 q2 q3).trans (h1.2 i q1 q2 q3)⟩
theorem eb_MZ_273 (h : eb_MZ m mm) : mm 273 = m 273 := h.1 273 (by decide) (by decide) (by decide) (by decide) (by decide) (by decide)
theorem eb_finM {u : Int32} (hk : eb_kf m m1) (hz : eb_MZ (ea_st (ea_st m1 287 0 u) 272 0 0) z) : z 272 0 = 0 ∧ z 287 0 = u ∧ eb_I z := by
  refine ⟨?_, ?_, eb_I_cg (eb_E_pt fun a i hs => ?_) hk.1⟩
  · rw [hz.2 0 (by decide) (by decide) (by decide), eb_st]
  · rw [hz.1 287 (by decide) (by decide) (by decide) (by decide) (by decide) (by decide), eb_stA _ _ _ (by decide), eb_st]
  · unfold eb_Sc at hs
    by_cases q : a = 272
    · subst q
      rw [hz.2 i (by omega) (by omega) (by omega), eb_stI _ _ _ (by omega), eb_stA _ _ _ (by decide)]
    · rw [hz.1 a q (by omega) (by omega) (by omega) (by omega) (by omega), eb_stA _ _ _ q, eb_stA _ _ _ (by omega)]
theorem eb_k273 {u : Int32} (hk : eb_kf m m1) : (ea_st (ea_st m1 287 0 u) 272 0 0) 273 = m 273 := by rw [eb_stA _ _ _ (by decide), eb_stA _ _ _ (by decide), hk.2.1]
/-- laying for bird b, after the class -/
theorem eb_laysI {b n : Nat} (h : eb_I m) (hn : n ≤ 6) (hb : b < n) (e : mm 273 = m 273) : eb_W (f_X12_laysWays (nI b) mm) (fun z => eb_MS mm z.2 ∧ eb_ML z.2 (m 273) b) := by
  obtain ⟨fr, tw, tp, tv, r1, r2, r3, r4, r5, r6, r7, r8, r9⟩ := eb_rng h
  exact eb_laysM (by omega) e h.1.2.1 r5 r6 r7 r8 r9
theorem eb_goodAllI (h : eb_I m) {b : Nat} (e : mm 273 = m 273) (hl : eb_ML mm (m 273) b) : f_X12_goodAll mm = some (eb_S (eb_gd (m 273) (eb_lan (m 273) (nI b))) 8, mm) := by
  obtain ⟨fr, tw, tp, tv, r1, r2, r3, r4, r5, r6, r7, r8, r9⟩ := eb_rng h
  exact eb_goodAllM e r1 r2 r3 r4 hl.2.2
theorem eb_goodAtI (h : eb_I m) {b k : Nat} (hk : k < 8) (e : mm 273 = m 273) (hl : eb_ML mm (m 273) b) : f_X12_goodAt (nI (k + 1)) mm = some (eb_gd (m 273) (eb_lan (m 273) (nI b)) k, mm) := by
  obtain ⟨fr, tw, tp, tv, r1, r2, r3, r4, r5, r6, r7, r8, r9⟩ := eb_rng h
  exact eb_goodAtM hk e r1 r2 r3 r4 hl.2.2
theorem eb_landedIn {a k c : Nat} {L : Nat → Int32} (hk : k < 8) (hc : c < 16) (h : ∀ j, j < 128 → m (a + 1) j = L j) : f_X4_landedIn a (nI c) (nI (k + 1)) m = some (L (16 * k + c), m) := by
  unfold f_X4_landedIn
  rw [show (nI (k + 1) - 1 : Int32) = nI k from by show nI (k + 1) - nI 1 = nI k; rw [← nI_add, Int32.add_sub_cancel], eb_bdR, show nI k * 16 + nI c = nI (16 * k + c) by show nI k * nI 16 + nI c = _; rw [pk_mul, nI_add, Nat.mul_comm], eb_gN (by omega) (by decide), eb_bdR, nI_clamp (by omega), h _ (by omega)]
theorem eb_p_ways (p1 p2 : Int32) (h : eb_I m) : eb_P eb_I (f_L_ways p1 p2 m) (f_X12_ways p1 p2) := by
  obtain ⟨n, hn, e1, e2, e3⟩ := eb_IB h
  have g0' : (ea_st m 272 0 0) 273 0 = nI n := e1
  rcases eb_ix (p := p1) (x := nI n) rfl (by omega) with hp | ⟨b, hb, rfl⟩
  · refine eb_Pk1 h (k := 1) (v := 0) ?_ ?_ (by decide)
    · unfold f_L_ways f_X11_ways
      rw [eb_needBird, e2, if_neg hp]
      rfl
    · unfold f_X12_ways
      rw [eb_bdR, eb_noBird p1 g0' (by omega), eb_clR, if_neg hp, eb_throwsIf1, eb_clR, if_neg eb_ne10]
  have hp := eb_ixT hb (show n < 2 ^ 31 by omega)
  by_cases hq : 0 ≤ p2 ∧ p2 ≤ 3
  · obtain ⟨S, eS⟩ : ∃ S, S = eb_S (eb_gd (m 273) (eb_lan (m 273) (nI b))) 8 := ⟨_, rfl⟩
    obtain ⟨O, eO⟩ : ∃ O, O = eb_off (m 273) (nI b) := ⟨_, rfl⟩
    obtain ⟨A, eA⟩ : ∃ A, A = eb_alo (m 273) (nI b) := ⟨_, rfl⟩
    obtain ⟨V, eV⟩ : ∃ V, V = 6561 - S - O - A := ⟨_, rfl⟩
    unfold f_L_ways
    refine eb_Lw (fun u m1 => eb_kf m m1 ∧ u = if p2 = 0 then S else if p2 = 1 then O else if p2 = 2 then A else V) ?_ ?_
    · unfold f_X11_ways
      rw [eb_needBird, e2, if_pos hp, eb_cx0, if_neg (Int32.not_lt.mpr hq.1), if_pos hq.2]
      refine eb_cl (eb_reckonF h) fun r m3 hk => ?_
      have hk : eb_kf m m3 := hk
      obtain ⟨f1, f2, f3, f4⟩ := hk.2.2.1 b (by rw [e3]; exact hb)
      have f1 : m3 (254 + 3 * b) 0 = O := by rw [eO]; exact f1
      have f2 : m3 (254 + 3 * b) 1 = A := by rw [eA]; exact f2
      have gu : f_X4_allGood (254 + 3 * b) m3 = some (S, m3) := by rw [eS]; exact eb_goodUpA f4
      rw [eb_gN (by omega) (by decide), eb_bdR, nI_clamp (by omega), eb_rFates b (by omega)]
      by_cases q0 : p2 = 0
      · rw [if_pos q0, if_pos q0, gu, eb_clR]
        exact eb_some ⟨rfl, hk, rfl⟩
      · rw [if_neg q0, if_neg q0]
        by_cases q1 : p2 = 1
        · rw [if_pos q1, if_pos q1, f1, eb_bdR]
          exact eb_some ⟨rfl, hk, rfl⟩
        · rw [if_neg q1, if_neg q1]
          by_cases q2 : p2 = 2
          · rw [if_pos q2, if_pos q2, f2, eb_bdR]
            exact eb_some ⟨rfl, hk, rfl⟩
          · rw [if_neg q2, if_neg q2, gu, eb_clR, f1, eb_bdR, eb_bdR, f2, eb_bdR, ← eV]
            exact eb_some ⟨rfl, hk, rfl⟩
    · rintro u m1 ⟨hk, hu⟩
      have k273 := eb_k273 (u := u) hk
      unfold f_X12_ways
      rw [eb_bdR, eb_noBird (nI b) (n := n) (by rw [k273]; exact e1) (by omega), eb_clR, if_pos hp, eb_throwsIf0, eb_clR, if_pos rfl, eb_inW, if_pos hq, eb_clR, if_neg eb_ne10]
      unfold f_X12_ways_j33
      rw [eb_throwsIf0, eb_clR, if_pos rfl]
      refine eb_cl (eb_laysI h hn hb k273) fun r m12 hz => ?_
      obtain ⟨z1, z2⟩ := hz
      have z1 : eb_MS (ea_st (ea_st m1 287 0 u) 272 0 0) m12 := z1
      have fin := eb_finM hk (eb_MZ_MS z1)
      have ga := eb_goodAllI h ((eb_MZ_273 (eb_MZ_MS z1)).trans k273) z2
      rw [← eS] at ga
      obtain ⟨l1, l2, l3⟩ := z2
      have l1 : m12 272 25 = O := by rw [eO]; exact l1
      have l2 : m12 272 26 = A := by rw [eA]; exact l2
      rw [ga, eb_clR]
      by_cases q0 : p2 = 0
      · rw [if_pos q0] at hu ⊢
        exact eb_some ⟨fin.1, fin.2.1.trans hu, fin.2.2⟩
      · rw [if_neg q0] at hu ⊢
        by_cases q1 : p2 = 1
        · rw [if_pos q1] at hu ⊢
          rw [l1, eb_bdR]
          exact eb_some ⟨fin.1, fin.2.1.trans hu, fin.2.2⟩
        · rw [if_neg q1] at hu ⊢
          by_cases q2 : p2 = 2
          · rw [if_pos q2] at hu ⊢
            rw [l2, eb_bdR]
            exact eb_some ⟨fin.1, fin.2.1.trans hu, fin.2.2⟩
          · rw [if_neg q2] at hu ⊢
            rw [l1, eb_bdR, eb_bdR, l2, eb_bdR, ← eV]
            exact eb_some ⟨fin.1, fin.2.1.trans hu, fin.2.2⟩
  · refine eb_Pk1 h (k := 2) (v := 0) ?_ ?_ (by decide)
    · unfold f_L_ways f_X11_ways
      rw [eb_needBird, e2, if_pos hp, eb_cx0]
      by_cases q : p2 < 0
      · rw [if_pos q]; rfl
      · rw [if_neg q, if_neg (fun z => hq ⟨Int32.not_lt.mp q, z⟩)]; rfl
    · unfold f_X12_ways
      rw [eb_bdR, eb_noBird (nI b) g0' (by omega), eb_clR, if_pos hp, eb_throwsIf0, eb_clR, if_pos rfl, eb_inW, if_neg hq, eb_clR, if_pos rfl]
      unfold f_X12_ways_j33
      rw [eb_throwsIf1, eb_clR, if_neg eb_ne10]
theorem eb_p_lands (p1 p2 : Int32) (h : eb_I m) : eb_P eb_I (f_L_lands p1 p2 m) (f_X12_lands p1 p2) := by
  obtain ⟨n, hn, e1, e2, e3⟩ := eb_IB h
  have g0' : (ea_st m 272 0 0) 273 0 = nI n := e1
  rcases eb_ix (p := p1) (x := nI n) rfl (by omega) with hp | ⟨b, hb, rfl⟩
  · refine eb_Pk1 h (k := 1) (v := 0) ?_ ?_ (by decide)
    · unfold f_L_lands f_X11_lands
      rw [eb_needBird, e2, if_neg hp]
      rfl
    · unfold f_X12_lands
      rw [eb_bdR, eb_noBird p1 g0' (by omega), eb_clR, if_neg hp, if_neg eb_ne10]
      unfold f_X12_lands_j21 f_X12_lands_j26
      rw [eb_throwsIf1, eb_clR, if_neg eb_ne10]
  have hp := eb_ixT hb (show n < 2 ^ 31 by omega)
  rcases eb_ix (p := p2) (x := nI 16) rfl (by decide) with hc | ⟨c, hc, rfl⟩
  · refine eb_Pk1 h (k := 1) (v := 0) ?_ ?_ (by decide)
    · unfold f_L_lands f_X11_lands
      rw [eb_needBird, e2, if_pos hp, eb_cx0, eb_needColumn, if_neg hc]
      rfl
    · unfold f_X12_lands
      rw [eb_bdR, eb_noBird (nI b) g0' (by omega), eb_clR, if_pos hp, if_pos rfl, eb_noColumn, eb_clR, if_neg hc, if_neg eb_ne10]
      unfold f_X12_lands_j21 f_X12_lands_j26
      rw [eb_throwsIf1, eb_clR, if_neg eb_ne10]
  have hc' := eb_ixT hc (show 16 < 2 ^ 31 by decide)
  obtain ⟨F, eF⟩ : ∃ F : Nat → Int32, F = fun k => eb_lan (m 273) (nI b) (16 * k + c) := ⟨_, rfl⟩
  unfold f_L_lands
  refine eb_Lw (fun u m1 => eb_kf m m1 ∧ u = eb_S F 8) ?_ ?_
  · unfold f_X11_lands
    rw [eb_needBird, e2, if_pos hp, eb_cx0, eb_needColumn, if_pos hc', eb_cx0]
    refine eb_cl (eb_reckonF h) fun r m3 hk => ?_
    have hk : eb_kf m m3 := hk
    obtain ⟨f1, f2, f3, f4⟩ := hk.2.2.1 b (by rw [e3]; exact hb)
    rw [eb_gN (by omega) (by decide), eb_bdR, nI_clamp (by omega), eb_rFates b (by omega)]
    refine eb_of (t := (0, eb_S F 8, m3)) (eb_loopB 8 (fun i => (eb_S F i, nI (i + 1), m3)) (eb_S F 8, m3) rfl (fun i hi => ?_) ?_ (by decide) rfl) ⟨rfl, hk, rfl⟩
    · unfold f_X11_lands_s27
      dsimp only
      rw [if_neg (show ¬ (8 : Int32) < nI (i + 1) from nI_nlt (a := 8) (by omega) (by decide)), eb_landedIn (m := m3) (a := 254 + 3 * b) hi hc f3, eb_clR, eb_bdR, nI_1, eF]
      rfl
    · unfold f_X11_lands_s27
      rw [if_pos (show (8 : Int32) < nI (8 + 1) by decide)]
  · rintro u m1 ⟨hk, hu⟩
    have k273 := eb_k273 (u := u) hk
    unfold f_X12_lands
    rw [eb_bdR, eb_noBird (nI b) (n := n) (by rw [k273]; exact e1) (by omega), eb_clR, if_pos hp, if_pos rfl, eb_noColumn, eb_clR, if_pos hc', if_pos rfl]
    unfold f_X12_lands_j26
    rw [eb_throwsIf0, eb_clR, if_pos rfl]
    refine eb_cl (eb_laysI h hn hb k273) fun r m12 hz => ?_
    obtain ⟨z1, z2⟩ := hz
    have fin := eb_finM hk (eb_MZ_MS z1)
    have z2 : ∀ j, j < 128 → m12 283 (16 + j) = eb_lan (m 273) (nI b) j := z2.2.2
    refine eb_of (t := (eb_S F 8, m12)) (eb_loopB 8 (fun i => (eb_S F i, nI (i + 1), m12)) (eb_S F 8, m12) rfl (fun i hi => ?_) ?_ (by decide) rfl) ⟨fin.1, fin.2.1.trans hu, fin.2.2⟩
    · unfold f_X12_lands_s45
      dsimp only
      rw [if_neg (show ¬ (8 : Int32) < nI (i + 1) from nI_nlt (a := 8) (by omega) (by decide)), eb_landedAtM hi hc z2, eb_clR, eb_bdR, nI_1, eF]
      rfl
    · unfold f_X12_lands_s45
      rw [if_pos (show (8 : Int32) < nI (8 + 1) by decide)]
theorem eb_ix18 {p : Int32} (h : 1 ≤ p ∧ p ≤ 8) : ∃ k, k < 8 ∧ p = nI (k + 1) := by
  rcases pk_ix p (n := 9) (by decide) with z | z | ⟨j, hj, rfl⟩
  · exact absurd (Int32.le_trans (by decide) h.1) (Int32.not_le.mpr z)
  · exact absurd (Int32.le_trans z h.2) (by decide)
  · have := (nI_leI (a := 1) (b := j) (by decide) (by omega)).mp h.1
    exact ⟨j - 1, by omega, by rw [show j - 1 + 1 = j by omega]⟩
theorem eb_p_good (p1 p2 : Int32) (h : eb_I m) : eb_P eb_I (f_L_good p1 p2 m) (f_X12_good p1 p2) := by
  obtain ⟨n, hn, e1, e2, e3⟩ := eb_IB h
  have g0' : (ea_st m 272 0 0) 273 0 = nI n := e1
  rcases eb_ix (p := p1) (x := nI n) rfl (by omega) with hp | ⟨b, hb, rfl⟩
  · refine eb_Pk1 h (k := 1) (v := 0) ?_ ?_ (by decide)
    · unfold f_L_good f_X11_good
      rw [eb_needBird, e2, if_neg hp]
      rfl
    · unfold f_X12_good
      rw [eb_bdR, eb_noBird p1 g0' (by omega), eb_clR, if_neg hp, eb_throwsIf1, eb_clR, if_neg eb_ne10]
  have hp := eb_ixT hb (show n < 2 ^ 31 by omega)
  by_cases hq : 1 ≤ p2 ∧ p2 ≤ 8
  · obtain ⟨k, hk8, ek⟩ := eb_ix18 hq
    unfold f_L_good
    refine eb_Lw (fun u m1 => eb_kf m m1 ∧ u = eb_gd (m 273) (eb_lan (m 273) (nI b)) k) ?_ ?_
    · unfold f_X11_good
      rw [eb_needBird, e2, if_pos hp, eb_cx0, eb_needWithin, if_pos hq, eb_cx0]
      refine eb_cl (eb_reckonF h) fun r m3 hk => ?_
      have hk : eb_kf m m3 := hk
      obtain ⟨f1, f2, f3, f4⟩ := hk.2.2.1 b (by rw [e3]; exact hb)
      have f4 : m3 (254 + 3 * b + 2) (k + 1) = eb_gd (m 273) (eb_lan (m 273) (nI b)) k := f4 k hk8
      rw [eb_gN (by omega) (by decide), eb_bdR, nI_clamp (by omega), eb_rFates b (by omega), ek, eb_gN (by omega) (by decide), eb_bdR, nI_clamp (by omega), f4]
      exact eb_some ⟨rfl, hk, rfl⟩
    · rintro u m1 ⟨hk, hu⟩
      have k273 := eb_k273 (u := u) hk
      unfold f_X12_good
      rw [eb_bdR, eb_noBird (nI b) (n := n) (by rw [k273]; exact e1) (by omega), eb_clR, if_pos hp, eb_throwsIf0, eb_clR, if_pos rfl, eb_inW, if_pos hq, eb_clR, if_neg eb_ne10]
      unfold f_X12_good_j34
      rw [eb_throwsIf0, eb_clR, if_pos rfl]
      refine eb_cl (eb_laysI h hn hb k273) fun r m12 hz => ?_
      obtain ⟨z1, z2⟩ := hz
      have fin := eb_finM hk (eb_MZ_MS z1)
      rw [ek, eb_goodAtI h hk8 ((eb_MZ_273 (eb_MZ_MS z1)).trans k273) z2, eb_clR]
      exact eb_some ⟨fin.1, fin.2.1.trans hu, fin.2.2⟩
  · refine eb_Pk1 h (k := 2) (v := 0) ?_ ?_ (by decide)
    · unfold f_L_good f_X11_good
      rw [eb_needBird, e2, if_pos hp, eb_cx0, eb_needWithin, if_neg hq]
      rfl
    · unfold f_X12_good
      rw [eb_bdR, eb_noBird (nI b) g0' (by omega), eb_clR, if_pos hp, eb_throwsIf0, eb_clR, if_pos rfl, eb_inW, if_neg hq, eb_clR, if_pos rfl]
      unfold f_X12_good_j34
      rw [eb_throwsIf1, eb_clR, if_neg eb_ne10]
end WAYS
