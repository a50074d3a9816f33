section TRIAL
variable {m mm : ea_M} {w : Nat → Int32}
/-- n duels one after another: how many the first has, the seed; D: how a duel ends, and its seed -/
def eb_trD (D : Int32 → Int32 × Int32) (sd : Int32) : Nat → Int32 × Int32
  | 0 => (0, sd)
  | k + 1 => ((eb_trD D sd k).1 + (if (D (eb_trD D sd k).2).1 = 1 then 1 else 0), (D (eb_trD D sd k).2).2)
variable {D : Int32 → Int32 × Int32}
theorem eb_tr_2 (D : Int32 → Int32 × Int32) (sd : Int32) (k : Nat) : (eb_trD D sd (k + 1)).2 = (D (eb_trD D sd k).2).2 := rfl
theorem eb_tr_1 (D : Int32 → Int32 × Int32) (sd : Int32) (k : Nat) : (eb_trD D sd (k + 1)).1 = (eb_trD D sd k).1 + (if (D (eb_trD D sd k).2).1 = 1 then 1 else 0) := rfl
theorem eb_tr_N {sd : Int32} (k : Nat) : ∃ t, t ≤ k ∧ (eb_trD D sd k).1 = nI t := by
  induction k with
  | zero => exact ⟨0, by decide, rfl⟩
  | succ k ih =>
    obtain ⟨t, h1, h2⟩ := ih
    rw [eb_tr_1, h2]
    by_cases q : (D (eb_trD D sd k).2).1 = 1
    · rw [if_pos q, nI_1]
      exact ⟨t + 1, by omega, rfl⟩
    · rw [if_neg q, Int32.add_zero]
      exact ⟨t, by omega, rfl⟩
/-- D is the duel of b against c -/
def eb_isD (D : Int32 → Int32 × Int32) (w : Nat → Int32) (b c : Nat) : Prop := ∀ sd, (D sd).1 = eb_en (eb_du w (nI b) (nI c) sd (w 8, w 7, 1, 0, 0) 8).2.1.2.2.2.2 (eb_du w (nI b) (nI c) sd (w 8, w 7, 1, 0, 0) 8).2.2.2.2.2.2 ∧ (D sd).2 = (eb_du w (nI b) (nI c) sd (w 8, w 7, 1, 0, 0) 8).1
theorem eb_firstA {n b c x : Nat} (hD : eb_isD D w b c) (sd : Int32) (hA : eb_A m w n) (hn : n ≤ 6) (hb : b < n) (hc : c < n) (hx : x ≤ 40) (hst : eb_fly (w 8, w 7, 1, 0, 0)) : eb_W (f_X11_firstHasIt (nI b) (nI c) (nI x) sd m) (fun z => z.1 = (eb_trD D sd x).1 ∧ eb_DG m z.2) := by
  unfold f_X11_firstHasIt
  refine eb_bind (eb_for (Q := fun z => z.1 = (eb_trD D sd x).1 ∧ eb_DG m z.2) x (fun k t => t.1 = (eb_trD D sd k).1 ∧ t.2.1 = (eb_trD D sd k).2 ∧ t.2.2.1 = nI k ∧ eb_DG m t.2.2.2) ?_ ?_ (by unfold ea_fuel; omega) ⟨rfl, rfl, rfl, fun _ _ _ _ _ _ _ => rfl, fun _ _ _ => rfl⟩) fun z hz => eb_some hz
  · rintro k ⟨t1, t2, t3, mm⟩ hk ⟨g1, g2, g3, g4⟩
    have g1 : t1 = (eb_trD D sd k).1 := g1
    have g2 : t2 = (eb_trD D sd k).2 := g2
    have g3 : t3 = nI k := g3
    subst g1 g2 g3
    have g4 : eb_DG m mm := g4
    unfold f_X11_firstHasIt_s10 f_X11_firstHasIt_j54
    dsimp only
    rw [if_neg (nI_ge hk (by omega))]
    refine eb_cl (eb_duelA (eb_trD D sd k).2 (eb_A_DG hA g4) hn hb hc hst) fun r m1 hz => ?_
    dsimp only at hz
    obtain ⟨z1, z2, z3, z4⟩ := hz
    obtain ⟨o1, o2⟩ := eb_du_ok (w := w) (b := nI b) (c := nI c) (sd := (eb_trD D sd k).2) hst 8 (by omega)
    have hd := hD (eb_trD D sd k).2
    obtain ⟨x1, hx1, ex1⟩ := eb_ok_gd o1
    obtain ⟨y1, hy1, ey1⟩ := eb_ok_gd o2
    have en := eb_endingA (m := m1) hx1 hy1 (z3.2.2.2.2.2.trans ex1) (z4.2.2.2.2.2.trans ey1)
    rw [eb_bdR, en, eb_clR, eb_bdR, eb_bdR, nI_1]
    rw [ex1, ey1] at hd
    have e1 : (D (eb_trD D sd k).2).1 = eb_en (nI x1) (nI y1) := hd.1
    have e2 : (eb_trD D sd (k + 1)).2 = m1 73 6 := by rw [eb_tr_2, hd.2, z2]
    by_cases q : eb_en (nI x1) (nI y1) = 1
    · rw [if_pos q]
      refine eb_some ⟨?_, e2.symm, rfl, eb_DG_trans g4 z1⟩
      dsimp only
      rw [eb_tr_1, e1, if_pos q]
    · rw [if_neg q]
      refine eb_some ⟨?_, e2.symm, rfl, eb_DG_trans g4 z1⟩
      dsimp only
      rw [eb_tr_1, e1, if_neg q]
  · rintro ⟨t1, t2, t3, mm⟩ ⟨g1, g2, g3, g4⟩
    have g3 : t3 = nI x := g3
    subst g3
    unfold f_X11_firstHasIt_s10
    dsimp only
    rw [if_pos (nI_le (Nat.le_refl _) (by omega))]
    exact eb_some ⟨g1, g4⟩
theorem eb_triesM {l : Nat → Nat → Int32} {b c x : Nat} (hD : eb_isD D w b c) (sd : Int32) (hb : b < 6) (hc : c < 6) (hx : x ≤ 40) (h273 : m 273 = eb_ws w 12 sd) (hL : eb_LR l w) (hst : eb_fly (w 8, w 7, 1, 0, 0)) : eb_W (f_X12_tries (nI b) (nI c) (nI x) m) (fun z => z.1 = (eb_trD D sd x).1 ∧ eb_MG m z.2 ∧ z.2 273 = eb_ws w 12 (eb_trD D sd x).2) := by
  unfold f_X12_tries
  refine eb_bind (eb_for (Q := fun z => z.1 = (eb_trD D sd x).1 ∧ eb_MG m z.2 ∧ z.2 273 = eb_ws w 12 (eb_trD D sd x).2) x (fun k t => t.1 = (eb_trD D sd k).1 ∧ t.2.1 = nI k ∧ eb_MG m t.2.2 ∧ t.2.2 273 = eb_ws w 12 (eb_trD D sd k).2) ?_ ?_ (by unfold ea_fuel; omega) ⟨rfl, rfl, ⟨fun _ _ _ _ _ _ => rfl, fun _ _ => rfl⟩, h273⟩) fun z hz => eb_some hz
  · rintro k ⟨t1, t2, mm⟩ hk ⟨g1, g2, g3, g4⟩
    have g1 : t1 = (eb_trD D sd k).1 := g1
    have g2 : t2 = nI k := g2
    subst g1 g2
    have g3 : eb_MG m mm := g3
    have g4 : mm 273 = eb_ws w 12 (eb_trD D sd k).2 := g4
    unfold f_X12_tries_s6 f_X12_tries_j29
    dsimp only
    rw [if_neg (nI_ge hk (by omega))]
    refine eb_cl (eb_calledM hb hc g4 hL hst) fun r m1 hz => ?_
    dsimp only at hz
    obtain ⟨z1, z2, z3, _⟩ := hz
    have hd := hD (eb_trD D sd k).2
    have z1 : (D (eb_trD D sd k).2).1 = r := by rw [z1, hd.1]
    have z3 : m1 273 = eb_ws w 12 (eb_trD D sd (k + 1)).2 := by rw [z3, eb_tr_2, hd.2]
    rw [eb_bdR, eb_bdR, nI_1]
    by_cases q : r = 1
    · rw [if_pos q]
      refine eb_some ⟨?_, rfl, eb_MG_trans g3 z2, z3⟩
      dsimp only
      rw [eb_tr_1, z1, if_pos q]
    · rw [if_neg q]
      refine eb_some ⟨?_, rfl, eb_MG_trans g3 z2, z3⟩
      dsimp only
      rw [eb_tr_1, z1, if_neg q]
  · rintro ⟨t1, t2, mm⟩ ⟨g1, g2, g3⟩
    have g2 : t2 = nI x := g2
    subst g2
    unfold f_X12_tries_s6
    dsimp only
    rw [if_pos (nI_le (Nat.le_refl _) (by omega))]
    exact eb_some ⟨g1, g3⟩
theorem eb_DG_E (h : eb_DG m mm) : eb_E m mm := eb_E_pt fun a i hs => by
  unfold eb_Sc at hs
  by_cases q : a = 16
  · subst q
    exact h.2 i (by omega) (by omega)
  · rw [h.1 a q (by omega) (by omega) (by omega) (by omega) (by omega)]
theorem eb_needTrialA (p1 p2 p3 : Int32) (m : ea_M) {n : Nat} (e : m 2 8 = nI n) : f_X11_needTrial p1 p2 p3 m = some (if 0 ≤ p1 ∧ p1 < nI n then (if 0 ≤ p2 ∧ p2 < nI n then (if 0 ≤ p3 ∧ p3 ≤ 40 then 0 else 2) else 1) else 1, 0, m) := by
  unfold f_X11_needTrial
  rw [eb_needBird, e]
  by_cases q1 : 0 ≤ p1 ∧ p1 < nI n
  · rw [if_pos q1, if_pos q1, eb_cx0, eb_needBird, e]
    by_cases q2 : 0 ≤ p2 ∧ p2 < nI n
    · rw [if_pos q2, if_pos q2, eb_cx0, eb_needWithin]
      by_cases q3 : 0 ≤ p3 ∧ p3 ≤ 40
      · rw [if_pos q3]; rfl
      · rw [if_neg q3]; rfl
    · rw [if_neg q2, if_neg q2]; rfl
  · rw [if_neg q1, if_neg q1]; rfl
/-- the end of trial and span: seed laid back -/
theorem eb_trE {m1 y : ea_M} {u : Int32} (h : eb_I m) (hE : eb_DG m m1) (hM : eb_MG (ea_st (ea_st m1 287 0 u) 272 0 0) y) {x : Int32} (h273 : y 273 = eb_ws (m 273) 12 x) : (ea_st y 273 12 (m 273 12)) 272 0 = 0 ∧ (ea_st y 273 12 (m 273 12)) 287 0 = u ∧ eb_I (ea_st y 273 12 (m 273 12)) := by
  refine ⟨?_, ?_, eb_I_cg (eb_E_trans (eb_DG_E hE) (eb_E_pt fun a i hs => ?_)) h⟩
  · rw [eb_stA _ _ _ (by decide), hM.2 0 (by omega), eb_st]
  · rw [eb_stA _ _ _ (by decide), hM.1 287 (by decide) (by decide) (by decide) (by decide) (by decide), eb_stA _ _ _ (by decide), eb_st]
  · unfold eb_Sc at hs
    by_cases q3 : a = 273
    · subst q3
      rw [eb_stw, h273, eb_ws2, eb_ws_id, hE.1 273 (by decide) (by decide) (by decide) (by decide) (by decide) (by decide)]
    · rw [eb_stA _ _ _ q3]
      by_cases q2 : a = 272
      · subst q2
        rw [hM.2 i (by omega), eb_stI _ _ _ (by omega), eb_stA _ _ _ (by decide)]
      · rw [hM.1 a q2 q3 (by omega) (by omega) (by omega), eb_stA _ _ _ q2, eb_stA _ _ _ (by omega)]
theorem eb_p_trial (p1 p2 p3 : Int32) (h : eb_I m) : eb_P eb_I (f_L_trial p1 p2 p3 m) (f_X12_trial p1 p2 p3) := by
  obtain ⟨n, hn, e1, e2, e3⟩ := eb_IB h
  have g0 : (ea_st m 272 0 0) 273 0 = nI n := e1
  rcases eb_ix (p := p1) (x := nI n) rfl (by omega) with hp | ⟨b, hb, rfl⟩
  · refine eb_Pk1 h (k := 1) (v := 0) ?_ ?_ (by decide)
    · unfold f_L_trial f_X11_trial
      rw [eb_needTrialA _ _ _ _ e2, if_neg hp]
      rfl
    · unfold f_X12_trial
      rw [eb_bdR, eb_noBird p1 g0 (by omega), eb_clR, if_neg hp, if_neg eb_ne10]
      unfold f_X12_trial_j22 f_X12_trial_j27
      rw [eb_throwsIf1, eb_clR, if_neg eb_ne10]
  have hp := eb_ixT hb (show n < 2 ^ 31 by omega)
  rcases eb_ix (p := p2) (x := nI n) rfl (by omega) with hq | ⟨c, hc, rfl⟩
  · refine eb_Pk1 h (k := 1) (v := 0) ?_ ?_ (by decide)
    · unfold f_L_trial f_X11_trial
      rw [eb_needTrialA _ _ _ _ e2, if_pos hp, if_neg hq]
      rfl
    · unfold f_X12_trial
      rw [eb_bdR, eb_noBird (nI b) g0 (by omega), eb_clR, if_pos hp, if_pos rfl, eb_noBird p2 g0 (by omega), eb_clR, if_neg hq, if_neg eb_ne10]
      unfold f_X12_trial_j22 f_X12_trial_j27
      rw [eb_throwsIf1, eb_clR, if_neg eb_ne10]
  have hq := eb_ixT hc (show n < 2 ^ 31 by omega)
  by_cases hr : 0 ≤ p3 ∧ p3 ≤ 40
  · obtain ⟨x, hx, ex⟩ := nI_of2 (M := 40) (n := 40) (by decide) (Int32.not_lt.mpr hr.1) hr.2
    have hA := eb_A_of h
    rw [e3] at hA
    have hst := eb_start h
    obtain ⟨D, hD⟩ : ∃ D, eb_isD D (m 273) b c := ⟨fun sd => (eb_en (eb_du (m 273) (nI b) (nI c) sd (m 273 8, m 273 7, 1, 0, 0) 8).2.1.2.2.2.2 (eb_du (m 273) (nI b) (nI c) sd (m 273 8, m 273 7, 1, 0, 0) 8).2.2.2.2.2.2, (eb_du (m 273) (nI b) (nI c) sd (m 273 8, m 273 7, 1, 0, 0) 8).1), fun sd => ⟨by dsimp only, by dsimp only⟩⟩
    unfold f_L_trial
    refine eb_Lw (fun u m1 => eb_DG m m1 ∧ u = (eb_trD D (m 273 12) x).1) ?_ ?_
    · unfold f_X11_trial
      rw [eb_needTrialA _ _ _ _ e2, if_pos hp, if_pos hq, if_pos hr, eb_cx0, show m 2 6 = m 273 12 from h.1.1.1.2.2.2.2.2.2.1, eb_bdR, ex]
      exact eb_cl (eb_firstA hD (m 273 12) hA hn hb hc hx hst) fun r m4 hz => eb_some ⟨rfl, hz.2, hz.1⟩
    · rintro u m1 ⟨hE, hu⟩
      have k273 : (ea_st (ea_st m1 287 0 u) 272 0 0) 273 = m 273 := by rw [eb_stA _ _ _ (by decide), eb_stA _ _ _ (by decide), hE.1 273 (by decide) (by decide) (by decide) (by decide) (by decide) (by decide)]
      have k0 : (ea_st (ea_st m1 287 0 u) 272 0 0) 273 0 = nI n := by rw [k273]; exact e1
      unfold f_X12_trial
      rw [eb_bdR, eb_noBird (nI b) k0 (by omega), eb_clR, if_pos hp, if_pos rfl, eb_noBird (nI c) k0 (by omega), eb_clR, if_pos hq, if_pos rfl]
      unfold f_X12_trial_j27
      rw [eb_throwsIf0, eb_clR, if_pos rfl, eb_inW, if_pos hr, eb_clR, if_neg eb_ne10]
      unfold f_X12_trial_j50
      rw [eb_throwsIf0, eb_clR, if_pos rfl, k273, eb_bdR, ex]
      refine eb_cl (eb_triesM (w := m 273) hD (m 273 12) (by omega) (by omega) hx (by rw [k273, eb_ws_id]) h.1.2.1 hst) fun r y hz => eb_bd (eb_some ?_)
      obtain ⟨z1, z2, z3⟩ := hz
      obtain ⟨y1, y2, y3⟩ := eb_trE h hE z2 z3
      exact ⟨y1, y2.trans (hu.trans z1.symm), y3⟩
  · refine eb_Pk1 h (k := 2) (v := 0) ?_ ?_ (by decide)
    · unfold f_L_trial f_X11_trial
      rw [eb_needTrialA _ _ _ _ e2, if_pos hp, if_pos hq, if_neg hr]
      rfl
    · unfold f_X12_trial
      rw [eb_bdR, eb_noBird (nI b) g0 (by omega), eb_clR, if_pos hp, if_pos rfl, eb_noBird (nI c) g0 (by omega), eb_clR, if_pos hq, if_pos rfl]
      unfold f_X12_trial_j27
      rw [eb_throwsIf0, eb_clR, if_pos rfl, eb_inW, if_neg hr, eb_clR, if_pos rfl]
      unfold f_X12_trial_j50
      rw [eb_throwsIf1, eb_clR, if_neg eb_ne10]
/-- the bound over the seeds 1 .. k + 1 -/
def eb_sn (D : Int32 → Int32 × Int32) (x : Nat) (q : Int32) : Nat → Int32
  | 0 => (eb_trD D 1 x).1
  | k + 1 => if q = 0 then ea_min (eb_sn D x q k) (eb_trD D (nI (k + 2)) x).1 else ea_max (eb_sn D x q k) (eb_trD D (nI (k + 2)) x).1
theorem eb_sn_N {q : Int32} {x : Nat} (hx : x ≤ 40) (k : Nat) : ∃ t, t ≤ 40 ∧ eb_sn D x q k = nI t := by
  induction k with
  | zero =>
    obtain ⟨t, h1, h2⟩ := eb_tr_N (D := D) (sd := 1) x
    exact ⟨t, by omega, h2⟩
  | succ k ih =>
    obtain ⟨t, h1, h2⟩ := ih
    obtain ⟨s, h3, h4⟩ := eb_tr_N (D := D) (sd := nI (k + 2)) x
    unfold eb_sn
    rw [h2, h4]
    by_cases hq : q = 0
    · rw [if_pos hq, eb_minN (by omega) (by omega)]
      exact ⟨_, by omega, rfl⟩
    · rw [if_neg hq, eb_maxN (by omega) (by omega)]
      exact ⟨_, by omega, rfl⟩
theorem eb_p_span (p1 p2 p3 p4 : Int32) (_ : eb_bo p4) (h : eb_I m) : eb_P eb_I (f_L_span p1 p2 p3 p4 m) (f_X12_span p1 p2 p3 p4) := by
  obtain ⟨n, hn, e1, e2, e3⟩ := eb_IB h
  have g0 : (ea_st m 272 0 0) 273 0 = nI n := e1
  rcases eb_ix (p := p1) (x := nI n) rfl (by omega) with hp | ⟨b, hb, rfl⟩
  · refine eb_Pk1 h (k := 1) (v := 0) ?_ ?_ (by decide)
    · unfold f_L_span f_X11_span
      rw [eb_needTrialA _ _ _ _ e2, if_neg hp]
      rfl
    · unfold f_X12_span
      rw [eb_bdR, eb_noBird p1 g0 (by omega), eb_clR, if_neg hp, if_neg eb_ne10]
      unfold f_X12_span_j22 f_X12_span_j27
      rw [eb_throwsIf1, eb_clR, if_neg eb_ne10]
  have hp := eb_ixT hb (show n < 2 ^ 31 by omega)
  rcases eb_ix (p := p2) (x := nI n) rfl (by omega) with hq | ⟨c, hc, rfl⟩
  · refine eb_Pk1 h (k := 1) (v := 0) ?_ ?_ (by decide)
    · unfold f_L_span f_X11_span
      rw [eb_needTrialA _ _ _ _ e2, if_pos hp, if_neg hq]
      rfl
    · unfold f_X12_span
      rw [eb_bdR, eb_noBird (nI b) g0 (by omega), eb_clR, if_pos hp, if_pos rfl, eb_noBird p2 g0 (by omega), eb_clR, if_neg hq, if_neg eb_ne10]
      unfold f_X12_span_j22 f_X12_span_j27
      rw [eb_throwsIf1, eb_clR, if_neg eb_ne10]
  have hq := eb_ixT hc (show n < 2 ^ 31 by omega)
  by_cases hr : 0 ≤ p3 ∧ p3 ≤ 40
  · obtain ⟨x, hx, ex⟩ := nI_of2 (M := 40) (n := 40) (by decide) (Int32.not_lt.mpr hr.1) hr.2
    have hA := eb_A_of h
    rw [e3] at hA
    have hst := eb_start h
    obtain ⟨D, hD⟩ : ∃ D, eb_isD D (m 273) b c := ⟨fun sd => (eb_en (eb_du (m 273) (nI b) (nI c) sd (m 273 8, m 273 7, 1, 0, 0) 8).2.1.2.2.2.2 (eb_du (m 273) (nI b) (nI c) sd (m 273 8, m 273 7, 1, 0, 0) 8).2.2.2.2.2.2, (eb_du (m 273) (nI b) (nI c) sd (m 273 8, m 273 7, 1, 0, 0) 8).1), fun sd => ⟨by dsimp only, by dsimp only⟩⟩
    unfold f_L_span
    refine eb_Lw (fun u m1 => eb_DG m m1 ∧ u = eb_sn D x p4 5) ?_ ?_
    · unfold f_X11_span
      rw [eb_needTrialA _ _ _ _ e2, if_pos hp, if_pos hq, if_pos hr, eb_cx0, ex]
      refine eb_cl (eb_firstA hD 1 hA hn hb hc hx hst) fun r m3 h3 => ?_
      dsimp only at h3
      obtain ⟨z1, z2⟩ := h3
      subst z1
      refine eb_bind (eb_for (Q := fun z => z.1 = eb_sn D x p4 5 ∧ eb_DG m z.2) 5 (fun k t => t.1 = eb_sn D x p4 k ∧ t.2.1 = nI (k + 2) ∧ eb_DG m t.2.2) ?_ ?_ (by decide) ⟨rfl, rfl, z2⟩) fun z hz => eb_some ⟨rfl, hz.2, hz.1⟩
      · rintro k ⟨t1, t2, mm⟩ hk ⟨g1, g2, g3⟩
        have g1 : t1 = eb_sn D x p4 k := g1
        have g2 : t2 = nI (k + 2) := g2
        subst g1 g2
        have g3 : eb_DG m mm := g3
        unfold f_X11_span_s20 f_X11_span_j60
        dsimp only
        rw [if_neg (show ¬ (6 : Int32) < nI (k + 2) from nI_nlt (a := 6) (by omega) (by decide))]
        refine eb_cl (eb_firstA hD (nI (k + 2)) (eb_A_DG hA g3) hn hb hc hx hst) fun r m5 h5 => ?_
        dsimp only at h5
        obtain ⟨y1, y2⟩ := h5
        subst y1
        rw [eb_bdR, eb_bdR, nI_1]
        by_cases q : p4 = 0
        · rw [if_pos q]
          refine eb_some ⟨?_, rfl, eb_DG_trans g3 y2⟩
          show _ = (if p4 = 0 then ea_min (eb_sn D x p4 k) (eb_trD D (nI (k + 2)) x).1 else ea_max (eb_sn D x p4 k) (eb_trD D (nI (k + 2)) x).1)
          rw [if_pos q]
        · rw [if_neg q]
          refine eb_some ⟨?_, rfl, eb_DG_trans g3 y2⟩
          show _ = (if p4 = 0 then ea_min (eb_sn D x p4 k) (eb_trD D (nI (k + 2)) x).1 else ea_max (eb_sn D x p4 k) (eb_trD D (nI (k + 2)) x).1)
          rw [if_neg q]
      · rintro ⟨t1, t2, mm⟩ ⟨g1, g2, g3⟩
        have g2 : t2 = nI 7 := g2
        subst g2
        unfold f_X11_span_s20
        rw [if_pos (show (6 : Int32) < nI 7 by decide)]
        exact eb_some ⟨g1, g3⟩
    · rintro u m1 ⟨hE, hu⟩
      have k273 : (ea_st (ea_st m1 287 0 u) 272 0 0) 273 = m 273 := by rw [eb_stA _ _ _ (by decide), eb_stA _ _ _ (by decide), hE.1 273 (by decide) (by decide) (by decide) (by decide) (by decide) (by decide)]
      have k0 : (ea_st (ea_st m1 287 0 u) 272 0 0) 273 0 = nI n := by rw [k273]; exact e1
      unfold f_X12_span
      rw [eb_bdR, eb_noBird (nI b) k0 (by omega), eb_clR, if_pos hp, if_pos rfl, eb_noBird (nI c) k0 (by omega), eb_clR, if_pos hq, if_pos rfl]
      unfold f_X12_span_j27
      rw [eb_throwsIf0, eb_clR, if_pos rfl, eb_inW, if_pos hr, eb_clR, if_neg eb_ne10]
      unfold f_X12_span_j50
      rw [eb_throwsIf0, eb_clR, if_pos rfl, k273, eb_bdR, ex]
      obtain ⟨m0, em0⟩ : ∃ m0, m0 = ea_st (ea_st m1 287 0 u) 272 0 0 := ⟨_, rfl⟩
      rw [← em0] at k273 ⊢
      refine eb_bind (eb_for (Q := fun z => z.1 = eb_sn D x p4 5 ∧ eb_MG m0 z.2 ∧ ∃ y, z.2 273 = eb_ws (m 273) 12 y) 6 (fun k t => t.1 = (if k = 0 then -1 else eb_sn D x p4 (k - 1)) ∧ t.2.1 = nI (k + 1) ∧ eb_MG m0 t.2.2 ∧ ∃ y, t.2.2 273 = eb_ws (m 273) 12 y) ?_ ?_ (by decide) ⟨rfl, rfl, ⟨fun _ _ _ _ _ _ => rfl, fun _ _ => rfl⟩, m 273 12, by rw [eb_ws_id]; exact k273⟩) fun z hz => ?_
      · rintro k ⟨t1, t2, mm⟩ hk ⟨g1, g2, g3, y, g4⟩
        have g2 : t2 = nI (k + 1) := g2
        subst g2
        have g1 : t1 = (if k = 0 then -1 else eb_sn D x p4 (k - 1)) := g1
        have g3 : eb_MG m0 mm := g3
        have g4 : mm 273 = eb_ws (m 273) 12 y := g4
        unfold f_X12_span_s74 f_X12_span_j131
        dsimp only
        rw [if_neg (show ¬ (6 : Int32) < nI (k + 1) from nI_nlt (a := 6) (by omega) (by decide)), eb_bdR]
        refine eb_cl (eb_triesM (w := m 273) hD (nI (k + 1)) (show b < 6 by omega) (show c < 6 by omega) hx (by rw [eb_stw, g4, eb_ws2]) h.1.2.1 hst) fun r m18 hz => ?_
        dsimp only at hz
        obtain ⟨z1, z2, z3⟩ := hz
        subst z1
        have mg : eb_MG m0 m18 := eb_MG_trans g3 (eb_MG_trans ⟨fun r _ q2 _ _ _ => eb_stA _ _ _ q2, fun i _ => by rw [eb_stA _ _ _ (by decide)]⟩ z2)
        rw [eb_bdR, eb_bdR, nI_1]
        by_cases k0 : k = 0
        · subst k0
          rw [if_pos rfl] at g1
          subst g1
          rw [if_neg (show ¬ (0 : Int32) ≤ -1 by decide)]
          exact eb_some ⟨rfl, rfl, mg, _, z3⟩
        · rw [if_neg k0] at g1
          subst g1
          obtain ⟨t, ht1, ht2⟩ := eb_sn_N (D := D) (q := p4) hx (k - 1)
          have e : eb_sn D x p4 k = if p4 = 0 then ea_min (eb_sn D x p4 (k - 1)) (eb_trD D (nI (k + 1)) x).1 else ea_max (eb_sn D x p4 (k - 1)) (eb_trD D (nI (k + 1)) x).1 := by
            obtain ⟨k', rfl⟩ : ∃ k', k = k' + 1 := ⟨k - 1, by omega⟩
            rfl
          rw [if_pos (show 0 ≤ eb_sn D x p4 (k - 1) by rw [ht2]; exact nI_pos' (by omega))]
          by_cases q : p4 = 0
          · rw [if_pos q]
            refine eb_some ⟨?_, rfl, mg, _, z3⟩
            rw [if_neg (show ¬ k + 1 = 0 by omega), Nat.add_sub_cancel, e, if_pos q]
          · rw [if_neg q]
            refine eb_some ⟨?_, rfl, mg, _, z3⟩
            rw [if_neg (show ¬ k + 1 = 0 by omega), Nat.add_sub_cancel, e, if_neg q]
      · rintro ⟨t1, t2, mm⟩ ⟨g1, g2, g3⟩
        have g2 : t2 = nI 7 := g2
        subst g2
        unfold f_X12_span_s74
        rw [if_pos (show (6 : Int32) < nI 7 by decide)]
        exact eb_some ⟨g1, g3⟩
      · obtain ⟨z1, z2, y, z3⟩ := hz
        refine eb_bd (eb_some ?_)
        rw [em0] at z2
        obtain ⟨y1, y2, y3⟩ := eb_trE h hE z2 z3
        exact ⟨y1, y2.trans (hu.trans z1.symm), y3⟩
  · refine eb_Pk1 h (k := 2) (v := 0) ?_ ?_ (by decide)
    · unfold f_L_span f_X11_span
      rw [eb_needTrialA _ _ _ _ e2, if_pos hp, if_pos hq, if_neg hr]
      rfl
    · unfold f_X12_span
      rw [eb_bdR, eb_noBird (nI b) g0 (by omega), eb_clR, if_pos hp, if_pos rfl, eb_noBird (nI c) g0 (by omega), eb_clR, if_pos hq, if_pos rfl]
      unfold f_X12_span_j27
      rw [eb_throwsIf0, eb_clR, if_pos rfl, eb_inW, if_neg hr, eb_clR, if_pos rfl]
      unfold f_X12_span_j50
      rw [eb_throwsIf1, eb_clR, if_neg eb_ne10]
end TRIAL
