section CALLC
variable {m mm : ea_M} {w : Nat → Int32}
theorem eb_callB {y : ea_M} {l : Nat → Nat → Int32} {k b c f g s1 s2 sz : Nat} {w1 : Nat → Int32} {wk : Int32} (hb : b < 6) (hc : c < 6) (hk : k < 12) (hf : f < 4) (hg : g < 4) (hfg : f ≠ g) (hs1 : 1 ≤ s1) (hs2 : 1 ≤ s2) (hsz : sz ≤ 60)
    (e1 : y 273 (50 + 6 * f + b) = nI s1) (e2 : y 273 (50 + 6 * g + c) = nI s2) (e10 : y 273 (74 + 4 * k) = nI f) (e11 : y 273 (75 + 4 * k) = nI g) (es : y 273 11 = nI sz) (e5 : y 273 5 = wk) (ew : w1 = eb_w2s (y 273) (50 + 6 * f + b) (nI (s1 - 1)) (50 + 6 * g + c) (nI (s2 - 1))) (hL : eb_LR l w1) (hst : eb_fly (w1 8, w1 7, 1, 0, 0))
    {x1 y1 : Nat} (ex1 : (eb_du w1 (nI b) (nI c) (w1 12) (w1 8, w1 7, 1, 0, 0) 8).2.1.2.2.2.2 = nI x1) (ey1 : (eb_du w1 (nI b) (nI c) (w1 12) (w1 8, w1 7, 1, 0, 0) 8).2.2.2.2.2.2 = nI y1) {S : Int32} (eS : (eb_du w1 (nI b) (nI c) (w1 12) (w1 8, w1 7, 1, 0, 0) 8).1 = S) :
    eb_W (eb_callY (nI k) (nI b) (nI c) y) (fun t => t.1 = eb_en (nI x1) (nI y1) ∧ (∀ a i, ¬ eb_W2 a i → t.2 a i = y a i) ∧ t.2 272 0 = y 272 0 ∧ t.2 287 0 = y 287 0 ∧ t.2 273 = eb_wc (y 273) w1 (eb_row wk (nI k) (nI b) (nI c) (eb_en (nI x1) (nI y1)) (eb_gf (nI x1) (nI y1))) (min 60 (sz + 1)) k (eb_en (nI x1) (nI y1)) S) := by
  have j12 : 50 + 6 * g + c ≠ 50 + 6 * f + b := by omega
  have wN : ∀ j, ¬ (50 ≤ j ∧ j < 74) → w1 j = y 273 j := fun j hj => by rw [ew]; exact eb_w2sN _ _ (by omega) (by omega)
  unfold eb_callY
  rw [show f_X12_ofCase (nI k) 0 y = f_X12_ofCase (nI k) (nI 0) y from rfl, eb_ofCase (by omega), eb_clR, Nat.add_zero, e10, eb_stockAt, eb_clR, eb_gN (by omega) (by decide), eb_bdR, eb_gN (by omega) (by decide), eb_bdR, nI_clamp (by omega), e1, show nI s1 - 1 = nI (s1 - 1) from pk_sub (b := 1) hs1]
  obtain ⟨m26, e26⟩ : ∃ m26, m26 = ea_st y 273 (50 + 6 * f + b) (nI (s1 - 1)) := ⟨_, rfl⟩
  rw [← e26]
  have q1 : m26 273 (75 + 4 * k) = nI g := by rw [e26, eb_stI _ _ _ (by omega)]; exact e11
  have q2 : m26 273 (50 + 6 * g + c) = nI s2 := by rw [e26, eb_stI _ _ _ j12]; exact e2
  rw [show f_X12_ofCase (nI k) 1 m26 = f_X12_ofCase (nI k) (nI 1) m26 from rfl, eb_ofCase (by omega), eb_clR, show 74 + 4 * k + 1 = 75 + 4 * k by omega, q1, eb_stockAt, eb_clR, eb_gN (by omega) (by decide), eb_bdR, eb_gN (by omega) (by decide), eb_bdR, nI_clamp (by omega), q2, show nI s2 - 1 = nI (s2 - 1) from pk_sub (b := 1) hs2]
  obtain ⟨m32, e32⟩ : ∃ m32, m32 = ea_st m26 273 (50 + 6 * g + c) (nI (s2 - 1)) := ⟨_, rfl⟩
  rw [← e32]
  have w32 : m32 273 = w1 := by rw [e32, e26, eb_w2sE, ew]
  have r32 : ∀ r, r ≠ 273 → m32 r = y r := fun r hr => by rw [e32, eb_stA _ _ _ hr, e26, eb_stA _ _ _ hr]
  refine eb_cl (eb_calledM (m := m32) (w := w1) (sd := w1 12) hb hc (by rw [eb_ws_id]; exact w32) hL hst) fun r m33 hz => ?_
  dsimp only at hz
  obtain ⟨z1, z2, z3, z4, z5⟩ := hz
  rw [ex1, ey1] at z1
  rw [eS] at z3
  rw [ex1] at z4
  rw [ey1] at z5
  subst z1
  obtain ⟨E, eE⟩ : ∃ E, E = eb_en (nI x1) (nI y1) := ⟨_, rfl⟩
  rw [← eE]
  rw [show f_X12_caseAt (nI k) 3 m33 = f_X12_caseAt (nI k) (nI 3) m33 from rfl, eb_caseAt, eb_clR, eb_gN (by omega) (by decide), eb_bdR, nI_clamp (by omega), show 74 + 4 * k + 3 = 77 + 4 * k by omega]
  have k11 : w1 11 = nI sz := by rw [wN 11 (by omega)]; exact es
  have k5 : w1 5 = wk := by rw [wN 5 (by omega)]; exact e5
  refine eb_cl (eb_tellsM (m := ea_st m33 273 (77 + 4 * k) E) (x1 := nI k) (x2 := nI b) (x3 := nI c) (x4 := E) (wk := wk) (a := nI x1) (b := nI y1) hsz ?_ ?_ ?_ ?_) fun r2 m38 h38 => eb_some ?_
  · rw [eb_stI _ _ _ (by omega), z3, eb_wsN _ _ (by decide)]; exact k11
  · rw [eb_stI _ _ _ (by omega), z3, eb_wsN _ _ (by decide)]; exact k5
  · rw [eb_stA _ _ _ (by decide)]; exact z4
  · rw [eb_stA _ _ _ (by decide)]; exact z5
  · dsimp only at h38
    obtain ⟨t1, t2⟩ := h38
    have t2' : ∀ i, m38 273 i = eb_wc (y 273) w1 (eb_row wk (nI k) (nI b) (nI c) E (eb_gf (nI x1) (nI y1))) (min 60 (sz + 1)) k E S i := fun i => by
      rw [t2 i]
      unfold eb_wc
      by_cases p1 : 122 ≤ i ∧ i < 128
      · rw [if_pos p1, if_pos p1]
      · rw [if_neg p1, if_neg p1]
        by_cases p2 : 128 ≤ i ∧ i < 482
        · rw [if_pos p2, if_pos p2, eb_stI _ _ _ (by omega), z3, eb_wsN _ _ (by omega), wN _ (by omega)]
        · rw [if_neg p2, if_neg p2]
          by_cases p3 : i = 11
          · rw [if_pos p3, if_pos p3]
          · rw [if_neg p3, if_neg p3, eb_sts]
            by_cases p4 : i = 77 + 4 * k
            · rw [if_pos ⟨rfl, p4⟩, if_pos p4]
            · rw [if_neg (fun u => p4 u.2), if_neg p4, z3]
              by_cases p5 : i = 12
              · rw [if_pos p5, p5, eb_wsT]
              · rw [if_neg p5, eb_wsN _ _ p5]
    refine ⟨rfl, fun a i hw => ?_, ?_, ?_, funext t2'⟩
    · show m38 a i = y a i
      unfold eb_W2 at hw
      by_cases p : a = 273
      · subst p
        rw [t2' i]
        unfold eb_wc
        rw [if_neg (by omega), if_neg (by omega), if_neg (by omega), if_neg (by omega), if_neg (by omega), wN _ (by omega)]
      · rw [t1 a p, eb_stA _ _ _ p]
        by_cases p2 : a = 272
        · subst p2
          rw [z2.2 i (by omega), r32 272 (by decide)]
        · rw [z2.1 a p2 p (by omega) (by omega) (by omega), r32 a p]
    · show m38 272 0 = _
      rw [t1 272 (by decide), eb_stA _ _ _ (by decide), z2.2 0 (by omega), r32 272 (by decide)]
    · show m38 287 0 = _
      rw [t1 287 (by decide), eb_stA _ _ _ (by decide), z2.1 287 (by decide) (by decide) (by decide) (by decide) (by decide), r32 287 (by decide)]
theorem eb_p_call (p q r : Int32) (h : eb_I m) : eb_P eb_I (f_L_call p q r m) (f_X12_call p q r) := by
  obtain ⟨n, hn, e1, e2, e3⟩ := eb_IB h
  obtain ⟨nk, hnk, f1, f2, f3⟩ := eb_IK h
  obtain ⟨sz, hsz, s1, s2, s3⟩ := eb_IS h
  have hc4 : eb_nc (m 273) ≤ 4 := h.1.1.2.1.2.1.2
  have g0 : (ea_st m 272 0 0) 273 0 = nI n := e1
  have g2 : (ea_st m 272 0 0) 273 2 = nI nk := f1
  rcases eb_ix (p := p) (x := nI nk) rfl (by omega) with hp | ⟨k, hk, rfl⟩
  · refine eb_Pk1 h (k := 1) (v := 0) ?_ ?_ (by decide)
    · unfold f_L_call f_X11_call
      rw [eb_needCase, f2, if_neg hp]
      rfl
    · unfold f_X12_call
      rw [eb_bdR, eb_noCase p g2 (by omega), eb_clR, if_neg hp, if_neg eb_ne10]
      unfold f_X12_call_j30 f_X12_call_j35
      rw [eb_throwsIf1, eb_clR, if_neg eb_ne10]
  have hp := eb_ixT hk (show nk < 2 ^ 31 by omega)
  rcases eb_ix (p := q) (x := nI n) rfl (by omega) with hq | ⟨b, hb, rfl⟩
  · refine eb_Pk1 h (k := 1) (v := 0) ?_ ?_ (by decide)
    · unfold f_L_call f_X11_call
      rw [eb_needCase, f2, if_pos hp, eb_cx0, eb_needBird, e2, if_neg hq]
      rfl
    · unfold f_X12_call
      rw [eb_bdR, eb_noCase (nI k) g2 (by omega), eb_clR, if_pos hp, if_pos rfl, eb_noBird q g0 (by omega), eb_clR, if_neg hq, if_neg eb_ne10]
      unfold f_X12_call_j30 f_X12_call_j35
      rw [eb_throwsIf1, eb_clR, if_neg eb_ne10]
  have hq := eb_ixT hb (show n < 2 ^ 31 by omega)
  rcases eb_ix (p := r) (x := nI n) rfl (by omega) with hr | ⟨c, hc, rfl⟩
  · refine eb_Pk1 h (k := 1) (v := 0) ?_ ?_ (by decide)
    · unfold f_L_call f_X11_call
      rw [eb_needCase, f2, if_pos hp, eb_cx0, eb_needBird, e2, if_pos hq, eb_cx0, eb_needBird, e2, if_neg hr]
      rfl
    · unfold f_X12_call
      rw [eb_bdR, eb_noCase (nI k) g2 (by omega), eb_clR, if_pos hp, if_pos rfl, eb_noBird (nI b) g0 (by omega), eb_clR, if_pos hq, if_pos rfl, eb_noBird r g0 (by omega), eb_clR, if_neg hr, if_neg eb_ne10]
      unfold f_X12_call_j30 f_X12_call_j35
      rw [eb_throwsIf1, eb_clR, if_neg eb_ne10]
  have hr := eb_ixT hc (show n < 2 ^ 31 by omega)
  obtain ⟨a1, a2, a3, a4, ⟨f, g, c1, c2, c3, c4, c5⟩, a6, a7⟩ := h.1.1.2.2.2.2.2.1 k (by rw [f3]; exact hk)
  have a1 : m 10 k = nI f := Eq.trans a1 c4
  have a2 : m 11 k = nI g := Eq.trans a2 c5
  have a4 : m 13 k = m 273 (77 + 4 * k) := a4
  have ch0 : f_X1_choices 8 (nI k) 0 m = some (eb_chs (m 273) k 0, m) := eb_choicesA h (s := 0) (by rw [f3]; exact hk) (by decide)
  have ch1 : f_X1_choices 8 (nI k) 1 m = some (eb_chs (m 273) k 1, m) := eb_choicesA h (s := 1) (by rw [f3]; exact hk) (by decide)
  have mh0 : ∀ m1 : ea_M, m1 273 = m 273 → f_X12_choices (nI k) 0 m1 = some (eb_chs (m 273) k 0, m1) := fun m1 e => by
    have z := eb_choicesM (m := m1) (k := k) (s := 0) (f := f) hn (by rw [e]; exact e1) (by omega) (by decide) (by omega) (by rw [e]; exact c4)
    rw [e] at z
    exact z
  have mh1 : ∀ m1 : ea_M, m1 273 = m 273 → f_X12_choices (nI k) 1 m1 = some (eb_chs (m 273) k 1, m1) := fun m1 e => by
    have z := eb_choicesM (m := m1) (k := k) (s := 1) (f := g) hn (by rw [e]; exact e1) (by omega) (by decide) (by omega) (by rw [e, show 74 + 4 * k + 1 = 75 + 4 * k by omega]; exact c5)
    rw [e] at z
    exact z
  have b01 : ∀ (s : Int32) (i : Nat), ¬ ((s >>> (nI i &&& 31)) &&& 1 = 0) → (s >>> (nI i &&& 31)) &&& 1 = 1 := fun s i z => by
    rcases eb_bit01 (s >>> (nI i &&& 31)) with y | y
    · exact absurd y z
    · exact y
  -- the model's head, up to the open case
  have mhead : ∀ m1 : ea_M, m1 273 = m 273 → f_X12_call (nI k) (nI b) (nI c) m1 = f_X12_call_j35 (nI k) (nI b) (nI c) 0 (ea_st m1 272 0 0) := fun m1 e => by
    have k2 : (ea_st m1 272 0 0) 273 2 = nI nk := by rw [eb_stA _ _ _ (by decide), e]; exact f1
    have k0 : (ea_st m1 272 0 0) 273 0 = nI n := by rw [eb_stA _ _ _ (by decide), e]; exact e1
    unfold f_X12_call
    rw [eb_bdR, eb_noCase (nI k) k2 (by omega), eb_clR, if_pos hp, if_pos rfl, eb_noBird (nI b) k0 (by omega), eb_clR, if_pos hq, if_pos rfl, eb_noBird (nI c) k0 (by omega), eb_clR, if_pos hr, if_pos rfl]
  have chead : f_X11_call (nI k) (nI b) (nI c) m = (if m 273 (77 + 4 * k) = 0 then (if (eb_chs (m 273) k 0 >>> (nI b &&& 31)) &&& 1 = 0 then some (3, 0, m) else if (eb_chs (m 273) k 1 >>> (nI c &&& 31)) &&& 1 = 0 then some (3, 0, m) else ea_cl (f_X11_remember m) fun _ z => eb_callX (nI k) (nI b) (nI c) z) else some (3, 0, m)) := by
    unfold f_X11_call
    rw [eb_needCase, f2, if_pos hp, eb_cx0, eb_needBird, e2, if_pos hq, eb_cx0, eb_needBird, e2, if_pos hr, eb_cx0, eb_gN (by omega) (by decide), eb_bdR, nI_clamp (by omega), a4, ch0, eb_clR, eb_bdR, ch1, eb_clR, eb_bdR]
    unfold eb_callX
    rw [nI_clamp (by omega)]
  by_cases o : m 273 (77 + 4 * k) = 0
  · by_cases hb0 : (eb_chs (m 273) k 0 >>> (nI b &&& 31)) &&& 1 = 0
    · refine eb_Pk1 h (k := 2) (v := 0) ?_ ?_ (by decide)
      · unfold f_L_call
        rw [chead, if_pos o, if_pos hb0]
        rfl
      · rw [mhead m rfl]
        unfold f_X12_call_j35
        rw [eb_throwsIf0, eb_clR, if_pos rfl, eb_isOpen (by omega), if_pos (show (ea_st m 272 0 0) 273 (77 + 4 * k) = 0 from o), eb_clR, if_neg eb_ne10, mh0 (ea_st m 272 0 0) rfl, eb_clR, eb_hasF ((eb_bit0 _ _).mp hb0), eb_clR, if_pos rfl]
        unfold f_X12_call_j77 f_X12_call_j82
        rw [eb_throwsIf1, eb_clR, if_neg eb_ne10]
    · by_cases hc0 : (eb_chs (m 273) k 1 >>> (nI c &&& 31)) &&& 1 = 0
      · refine eb_Pk1 h (k := 2) (v := 0) ?_ ?_ (by decide)
        · unfold f_L_call
          rw [chead, if_pos o, if_neg hb0, if_pos hc0]
          rfl
        · rw [mhead m rfl]
          unfold f_X12_call_j35
          rw [eb_throwsIf0, eb_clR, if_pos rfl, eb_isOpen (by omega), if_pos (show (ea_st m 272 0 0) 273 (77 + 4 * k) = 0 from o), eb_clR, if_neg eb_ne10, mh0 (ea_st m 272 0 0) rfl, eb_clR, eb_hasT (b01 _ _ hb0), eb_clR, if_neg eb_ne10, mh1 (ea_st m 272 0 0) rfl, eb_clR, eb_hasF ((eb_bit0 _ _).mp hc0), eb_clR, if_pos rfl]
          unfold f_X12_call_j77 f_X12_call_j82
          rw [eb_throwsIf1, eb_clR, if_neg eb_ne10]
      · obtain ⟨_, p1⟩ := eb_chs_bit (w := m 273) (k := k) (s := 0) (by omega) (show b < 6 by omega) (b01 _ _ hb0)
        obtain ⟨_, p2⟩ := eb_chs_bit (w := m 273) (k := k) (s := 1) (by omega) (show c < 6 by omega) (b01 _ _ hc0)
        rw [Nat.add_zero, c4, nI_clamp (by omega)] at p1
        rw [show 74 + 4 * k + 1 = 75 + 4 * k by omega, c5, nI_clamp (by omega)] at p2
        obtain ⟨d1, ⟨t1, ht1, et1⟩, _⟩ := h.1.1.2.2.2.2.1 f b (by omega) (by omega)
        obtain ⟨d2, ⟨t2, ht2, et2⟩, _⟩ := h.1.1.2.2.2.2.1 g c (by omega) (by omega)
        have d1 : m 9 (6 * f + b) = nI t1 := Eq.trans d1 et1
        have d2 : m 9 (6 * g + c) = nI t2 := Eq.trans d2 et2
        have l1 : 1 ≤ t1 := by
          rw [et1] at p1
          have := (nI_ltI (a := 0) (b := t1) (by decide) (by omega)).mp p1
          omega
        have l2 : 1 ≤ t2 := by
          rw [et2] at p2
          have := (nI_ltI (a := 0) (b := t2) (by decide) (by omega)).mp p2
          omega
        obtain ⟨w1, ew⟩ : ∃ w1, w1 = eb_w2s (m 273) (50 + 6 * f + b) (nI (t1 - 1)) (50 + 6 * g + c) (nI (t2 - 1)) := ⟨_, rfl⟩
        have wN : ∀ j, ¬ (50 ≤ j ∧ j < 74) → w1 j = m 273 j := fun j hj => by rw [ew]; exact eb_w2sN _ _ (by omega) (by omega)
        have hst : eb_fly (w1 8, w1 7, 1, 0, 0) := by rw [wN 8 (by omega), wN 7 (by omega)]; exact eb_start h
        obtain ⟨o1, o2⟩ := eb_du_ok (w := w1) (b := nI b) (c := nI c) (sd := w1 12) hst 8 (by omega)
        obtain ⟨x1, hx1, ex1⟩ := eb_ok_gd o1
        obtain ⟨y1, hy1, ey1⟩ := eb_ok_gd o2
        obtain ⟨S, eS⟩ : ∃ S, (eb_du w1 (nI b) (nI c) (w1 12) (w1 8, w1 7, 1, 0, 0) 8).1 = S := ⟨_, rfl⟩
        obtain ⟨lt, hlt, elt, hl⟩ := h.1.1.2.2.2.2.2.2
        obtain ⟨wk, hwk, ewk⟩ := h.1.1.2.1.2.2.2.2.1
        have hA := eb_A_of h
        rw [e3] at hA
        have hL1 : eb_LR (eb_ct m 16) w1 := eb_LR_cg rfl rfl (fun _ _ _ _ _ => rfl) (fun _ _ _ => rfl) (wN 4 (by omega)) (fun j hj _ => wN j (by omega)) h.1.2.1
        have hC1 := eb_C_2s h.1.1 (c := f) (d := g) (b := b) (b' := c) (v1 := t1 - 1) (v2 := t2 - 1) (by omega) (by omega) (by omega) (by omega) (by omega) (by omega)
        rw [← ew] at hC1
        unfold f_L_call
        refine eb_actP (A := eb_callX (nI k) (nI b) (nI c)) (B := eb_callY (nI k) (nI b) (nI c)) (eb_en (nI x1) (nI y1)) (eb_cc (eb_c2s m (6 * f + b) (nI (t1 - 1)) (6 * g + c) (nI (t2 - 1))) (eb_row (nI wk) (nI k) (nI b) (nI c) (eb_en (nI x1) (nI y1)) (eb_gf (nI x1) (nI y1))) ((lt + 1) % 60) (min 60 (sz + 1)) k (eb_en (nI x1) (nI y1)) S) (eb_wc (m 273) w1 (eb_row (nI wk) (nI k) (nI b) (nI c) (eb_en (nI x1) (nI y1)) (eb_gf (nI x1) (nI y1))) (min 60 (sz + 1)) k (eb_en (nI x1) (nI y1)) S) (m 0 18) h ?_ (fun m1 q1 => ?_) (fun z z1 z2 => ?_) (fun y e => ?_) ?_ (Or.inr ⟨rfl, ?_, fun j hj => ?_⟩)
        · rw [chead, if_pos o, if_neg hb0, if_neg hc0]
        · have k273 : (ea_st m1 272 0 0) 273 = m 273 := by rw [eb_stA _ _ _ (by decide), q1]
          rw [mhead m1 q1]
          unfold f_X12_call_j35
          rw [eb_throwsIf0, eb_clR, if_pos rfl, eb_isOpen (by omega), if_pos (show (ea_st m1 272 0 0) 273 (77 + 4 * k) = 0 by rw [k273]; exact o), eb_clR, if_neg eb_ne10, mh0 _ k273, eb_clR, eb_hasT (b01 _ _ hb0), eb_clR, if_neg eb_ne10, mh1 _ k273, eb_clR, eb_hasT (b01 _ _ hc0), eb_clR, if_neg eb_ne10]
          unfold f_X12_call_j82
          rw [eb_throwsIf0, eb_clR, if_pos rfl]
          rfl
        · have zz : ∀ r, 1 ≤ r → r < 86 → z r = m r := fun r q1 q2 => z1 r q1 (by omega)
          refine eb_mono (eb_callA (z := z) (w0 := w1) (sd := w1 12) (wk := wk) hn hb hc (by omega) (by omega) (by omega) c3 l1 ht1 l2 ht2 hlt hsz (eb_A_w hn hA (fun j hj => wN j (by omega)) (fun r hr => ?_)) hst (by rw [zz 10 (by decide) (by decide)]; exact a1) (by rw [zz 11 (by decide) (by decide)]; exact a2) (by rw [zz 9 (by decide) (by decide)]; exact d1) (by rw [zz 9 (by decide) (by decide)]; exact d2) (by rw [zz 2 (by decide) (by decide), wN 12 (by omega)]; exact h.1.1.1.2.2.2.2.2.2.1) (by rw [zz 2 (by decide) (by decide)]; exact Eq.trans h.1.1.1.2.2.2.2.2.1 ewk) (by rw [zz 14 (by decide) (by decide)]; exact elt) (by rw [zz 14 (by decide) (by decide)]; exact s2) hx1 hy1 ex1 ey1 eS) fun t ht => ⟨ht.1, ht.2.1, ht.2.2.1, fun i j hi => ?_, ht.2.2.2.2.trans (z2 18 (by decide) (by decide))⟩
          · exact zz r (by omega) (by omega)
          · rw [ht.2.2.2.1 i j hi]
            unfold eb_cc eb_c2s
            rw [zz (2 + i) (by omega) (by omega)]
        · have ey : y 273 = m 273 := e
          rw [← ey]
          exact eb_callB (l := eb_ct m 16) (by omega) (by omega) (by omega) (by omega) (by omega) c3 l1 l2 hsz (by rw [ey]; exact et1) (by rw [ey]; exact et2) (by rw [ey]; exact c4) (by rw [ey]; exact c5) (by rw [ey]; exact s1) (by rw [ey]; exact ewk) (by rw [ey]; exact ew) hL1 hst ex1 ey1 eS
        · refine eb_C_call hC1 (by rw [eb_k_cg (wN 2 (by omega)), f3]; exact hk) (fun j hj => (wN j (by omega)).symm) hlt (by rw [eb_c2sN _ _ (by decide)]; exact elt) (by rw [wN 11 (by omega)]; exact s1) hsz (fun g' x hg' hx => ?_) (eb_enR _ _)
          rw [eb_c2sN _ _ (by decide), wN _ (by omega)]
          exact hl g' x (by rw [s3]; exact hg') hx
        · unfold eb_wc
          rw [if_neg (by omega), if_neg (by omega), if_neg (by omega), if_neg (by omega), if_neg (by omega), wN 0 (by omega)]
        · have hr1 := eb_rel_hi hj
          unfold eb_wc
          rw [if_neg (by omega), if_neg (by omega), if_neg (by omega), if_neg (by omega), if_neg (by omega), wN j (by omega)]
  · refine eb_Pk1 h (k := 2) (v := 0) ?_ ?_ (by decide)
    · unfold f_L_call
      rw [chead, if_neg o]
      rfl
    · rw [mhead m rfl]
      unfold f_X12_call_j35
      rw [eb_throwsIf0, eb_clR, if_pos rfl, eb_isOpen (by omega), if_neg (show ¬ (ea_st m 272 0 0) 273 (77 + 4 * k) = 0 from o), eb_clR, if_pos rfl]
      unfold f_X12_call_j77 f_X12_call_j82
      rw [eb_throwsIf1, eb_clR, if_neg eb_ne10]
end CALLC
