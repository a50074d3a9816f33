section SUREST
variable {m m1 mm z : ea_M} {w : Nat → Int32} {g : Nat → Nat → Int32} {n i j k : Nat}
theorem eb_needOpen (h : eb_I m) (hk : k < eb_k (m 273)) : f_X11_needOpenCase (nI k) m = some (if m 273 (77 + 4 * k) = 0 then 0 else 3, 0, m) := by
  obtain ⟨c, hc, e3, e4, e5⟩ := eb_IK h
  rw [e5] at hk
  have a4 : m 13 k = m 273 (77 + 4 * k) := (h.1.1.2.2.2.2.2.1 k (by rw [e5]; exact hk)).2.2.2.1
  unfold f_X11_needOpenCase
  rw [eb_needCase, e4, if_pos (eb_ixT hk (by omega)), eb_cx0, eb_gN (by omega) (by decide), eb_bdR, nI_clamp (by omega), a4]
  by_cases q : m 273 (77 + 4 * k) = 0
  · rw [if_pos q, if_pos q]
  · rw [if_neg q, if_neg q]
theorem eb_needOpen1 {p : Int32} {c : Nat} (e4 : m 8 1 = nI c) (hp : ¬ (0 ≤ p ∧ p < nI c)) : f_X11_needOpenCase p m = some (1, 0, m) := by
  unfold f_X11_needOpenCase
  rw [eb_needCase, e4, if_neg hp]
  rfl
/-- the choices of both sides, of the class and of the reference, behind the reckoning -/
theorem eb_chA {s : Nat} (hk : eb_kf m m1) (hkk : k < eb_k (m 273)) (hs : s < 2) : f_X1_choices 8 (nI k) (nI s) m1 = some (eb_chs (m 273) k s, m1) := by
  have := eb_choicesA hk.1 (k := k) (s := s) (by rw [hk.2.1]; exact hkk) hs
  rw [hk.2.1] at this
  exact this
theorem eb_chM {s : Nat} (h : eb_I m) (hn : n ≤ 6) (e1 : m 273 0 = nI n) (hkk : k < eb_k (m 273)) (hs : s < 2) (e : mm 273 = m 273) : f_X12_choices (nI k) (nI s) mm = some (eb_chs (m 273) k s, mm) := by
  obtain ⟨c, hc, e3, e4, e5⟩ := eb_IK h
  obtain ⟨a1, a2, a3, a4, ⟨f, f', b1, b2, b3, b4, b5⟩, a6, a7⟩ := h.1.1.2.2.2.2.2.1 k hkk
  have hc : eb_nc (m 273) ≤ 4 := h.1.1.2.1.2.1.2
  rw [← e]
  obtain rfl | rfl : s = 0 ∨ s = 1 := by omega
  · exact eb_choicesM (f := f) hn (by rw [e]; exact e1) (by omega) hs (by omega) (by rw [e]; exact b4)
  · exact eb_choicesM (f := f') hn (by rw [e]; exact e1) (by omega) hs (by omega) (by rw [e, show 74 + 4 * k + 1 = 75 + 4 * k by omega]; exact b5)
/-- the least that bird i has against a choice of the set s -/
noncomputable def eb_lm (g : Nat → Nat → Int32) (s : Int32) (i b : Nat) (a : Int32) : Int32 := haveI := Classical.propDecidable (eb_bit s b); if eb_bit s b then ea_min a (eb_hs g i b) else a
noncomputable def eb_lb (g : Nat → Nat → Int32) (n : Nat) (s : Int32) (i : Nat) : Int32 := Int64.toInt32 (((eb_F (eb_lm g s i) 43046721 n).toInt64 * ((100 : Int64))) / ((43046721 : Int64)))
theorem eb_atLeastA (hK : eb_KA m n g) (hn : n ≤ 6) (hi : i < n) (s : Int32) : f_X11_atLeast (nI i) s m = some (eb_lb g n s i, m) := by
  unfold f_X11_atLeast eb_lb
  obtain ⟨F, eF⟩ : ∃ F, F = eb_F (eb_lm g s i) 43046721 := ⟨_, rfl⟩
  have F0 : (43046721 : Int32) = F 0 := by rw [eF]; rfl
  have nx : ∀ b, F (b + 1) = eb_lm g s i b (F b) := fun b => by rw [eF, eb_F_s]
  rw [← eF, F0]
  refine eb_loopB n (fun b => (F b, nI b, m)) (F n, m) rfl (fun b hb => ?_) ?_ (by unfold ea_fuel; omega) rfl
  · unfold f_X11_atLeast_s7 f_X11_atLeast_j40
    dsimp only
    rw [hK.1, eb_bdR, if_neg (nI_ge hb (by omega)), eb_bdR, nx b, nI_1]
    unfold eb_lm
    by_cases q : eb_bit s b
    · rw [if_neg (fun z => (eb_bit0 _ _).mp z q), eb_hasItA hK hn hi hb, eb_clR, if_pos q, eb_bdR]
    · rw [if_pos ((eb_bit0 _ _).mpr q), if_neg q]
  · unfold f_X11_atLeast_s7
    dsimp only
    rw [hK.1, eb_bdR, if_pos (nI_le (Nat.le_refl _) (by omega))]
theorem eb_leastByM (hK : eb_KM m n g) (hn : n ≤ 6) (hi : i < n) (s : Int32) : f_X12_leastBy (nI i) s m = some (eb_lb g n s i, m) := by
  unfold f_X12_leastBy eb_lb
  obtain ⟨F, eF⟩ : ∃ F, F = eb_F (eb_lm g s i) 43046721 := ⟨_, rfl⟩
  have F0 : (43046721 : Int32) = F 0 := by rw [eF]; rfl
  have nx : ∀ b, F (b + 1) = eb_lm g s i b (F b) := fun b => by rw [eF, eb_F_s]
  rw [← eF, F0, Int64.mul_comm]
  refine eb_loopB n (fun b => (F b, nI b, m)) (F n, m) rfl (fun b hb => ?_) ?_ (by unfold ea_fuel; omega) ?_
  · unfold f_X12_leastBy_s7 f_X12_leastBy_j40
    dsimp only
    rw [eb_birds, eb_clR, hK.1, if_neg (nI_ge hb (by omega)), nx b, nI_1]
    unfold eb_lm
    by_cases q : eb_bit s b
    · rw [eb_hasT q, eb_clR, if_neg eb_ne10, eb_firstHasM hK hn hi hb, eb_clR, if_pos q, eb_bdR]
    · rw [eb_hasF q, eb_clR, if_pos rfl, if_neg q]
  · unfold f_X12_leastBy_s7
    dsimp only
    rw [eb_birds, eb_clR, hK.1, if_pos (nI_le (Nat.le_refl _) (by omega))]
  · dsimp only
    rw [eb_bdR]
/-- the surest so far: its odds, which it is -/
noncomputable def eb_su (g : Nat → Nat → Int32) (n : Nat) (s s' : Int32) (i : Nat) (t : Int32 × Int32) : Int32 × Int32 :=
  haveI := Classical.propDecidable (eb_bit s i); if eb_bit s i then (if eb_lb g n s' i ≤ t.1 then t else (eb_lb g n s' i, nI i)) else t
theorem eb_sure (h : eb_I m) (hn : n ≤ 6) (e1 : m 273 0 = nI n) (e3 : eb_b (m 273) = n) (hkk : k < eb_k (m 273)) (hop : m 273 (77 + 4 * k) = 0) (p3 : Int32) {s s' : Nat} (hs : s < 2) (hs' : s' < 2) (hss : s' = 1 - s) :
    eb_P eb_I (f_L_surest (nI k) (nI s) p3 m) (f_X12_surest (nI k) (nI s) p3) := by
  obtain ⟨c, hc, c3, c4, c5⟩ := eb_IK h
  have ok := eb_OK_of h
  have hp := eb_ixT (show k < c by omega) (show c < 2 ^ 31 by omega)
  obtain ⟨X, eX⟩ : ∃ X, X = eb_chs (m 273) k s := ⟨_, rfl⟩
  obtain ⟨Y, eY⟩ : ∃ Y, Y = eb_chs (m 273) k s' := ⟨_, rfl⟩
  obtain ⟨F, eF⟩ : ∃ F, F = eb_F (eb_su (eb_g8 (m 273)) n X Y) (-1, -1) := ⟨_, rfl⟩
  have nx : ∀ i, F (i + 1) = eb_su (eb_g8 (m 273)) n X Y i (F i) := fun i => by rw [eF, eb_F_s]
  have F0 : F 0 = (-1, -1) := by rw [eF]; rfl
  unfold f_L_surest
  refine eb_Lw (fun u m1 => eb_kf m m1 ∧ u = if X = 0 then -1 else if Y = 0 then -1 else if p3 = 0 then (F n).2 else (F n).1) ?_ ?_
  · unfold f_X11_surest
    rw [eb_needOpen h hkk, if_pos hop, eb_cx0]
    refine eb_cl (eb_reckonF h) fun r m3 hk => ?_
    have hk : eb_kf m m3 := hk
    have hK := eb_KA_of h e3 hk
    rw [eb_chA hk hkk hs, eb_clR, ← eX]
    have body : eb_W (f_X11_surest_j40 p3 X (nI k) (nI s') m3) (fun o => o.1 = 0 ∧ eb_kf m o.2.2 ∧ o.2.1 = if X = 0 then -1 else if Y = 0 then -1 else if p3 = 0 then (F n).2 else (F n).1) := by
      unfold f_X11_surest_j40
      rw [eb_chA hk hkk hs', eb_clR, ← eY]
      by_cases q1 : X = 0
      · rw [if_pos q1, if_pos q1]
        exact eb_some ⟨rfl, hk, rfl⟩
      · rw [if_neg q1, if_neg q1]
        by_cases q2 : Y = 0
        · rw [if_pos q2, if_pos q2]
          exact eb_some ⟨rfl, hk, rfl⟩
        · rw [if_neg q2, if_neg q2]
          refine eb_bind (P := fun t => t = ((F n).1, (F n).2, m3)) (eb_of (eb_loopF n (fun i => ((F i).1, (F i).2, nI i, m3)) ((F n).1, (F n).2, m3) (by rw [F0]; rfl) (fun i hi => ?_) ?_ (by unfold ea_fuel; omega)) rfl) fun t et => ?_
          · unfold f_X11_surest_s66 f_X11_surest_j116
            dsimp only
            rw [hK.1, eb_bdR, if_neg (nI_ge hi (by omega)), eb_bdR, nx i, nI_1]
            unfold eb_su
            by_cases q : eb_bit X i
            · rw [if_neg (fun z => (eb_bit0 _ _).mp z q), eb_atLeastA hK hn hi, eb_clR, if_pos q]
              by_cases q4 : eb_lb (eb_g8 (m 273)) n Y i ≤ (F i).1
              · rw [if_pos q4, if_pos q4]
              · rw [if_neg q4, if_neg q4]
            · rw [if_pos ((eb_bit0 _ _).mpr q), if_neg q]
          · unfold f_X11_surest_s66
            dsimp only
            rw [hK.1, eb_bdR, if_pos (nI_le (Nat.le_refl _) (by omega))]
          · subst et
            by_cases q3 : p3 = 0
            · rw [if_pos q3, if_pos q3]
              exact eb_some ⟨rfl, hk, rfl⟩
            · rw [if_neg q3, if_neg q3]
              exact eb_some ⟨rfl, hk, rfl⟩
    obtain rfl | rfl : s = 0 ∨ s = 1 := by omega
    · subst hss
      rw [if_pos (show nI 0 = 0 from rfl)]
      exact body
    · subst hss
      rw [if_neg (show ¬ nI 1 = 0 by decide)]
      exact body
  · rintro u m1 ⟨hk, hu⟩
    have k273 := eb_k273 (u := u) hk
    unfold f_X12_surest
    rw [eb_bdR, eb_noCase (nI k) (n := c) (by rw [k273]; exact c3) (by omega), eb_clR, if_pos hp, eb_throwsIf0, eb_clR, if_pos rfl, eb_isOpen (by omega), k273, if_pos hop, eb_clR, if_neg eb_ne10]
    unfold f_X12_surest_j32
    rw [eb_throwsIf0, eb_clR, if_pos rfl]
    have fin0 := eb_finM (u := u) hk (eb_MZ_refl _)
    have body : eb_W (f_X12_surest_j68 p3 X (nI k) (nI s') (ea_st (ea_st m1 287 0 u) 272 0 0)) (fun y => y.2 272 0 = 0 ∧ y.2 287 0 = y.1 ∧ eb_I y.2) := by
      unfold f_X12_surest_j68
      rw [eb_chM h hn e1 hkk hs' k273, eb_clR, ← eY]
      by_cases q1 : X = 0
      · rw [if_pos q1] at hu ⊢
        exact eb_some ⟨fin0.1, fin0.2.1.trans hu, fin0.2.2⟩
      · rw [if_neg q1] at hu ⊢
        by_cases q2 : Y = 0
        · rw [if_pos q2] at hu ⊢
          exact eb_some ⟨fin0.1, fin0.2.1.trans hu, fin0.2.2⟩
        · rw [if_neg q2] at hu ⊢
          refine eb_cl (eb_laysAll hn k273 e1 ok) fun r m6 hz => ?_
          obtain ⟨z1, hK⟩ := hz
          have hK : eb_KM m6 n (eb_g8 (m 273)) := hK
          have fin := eb_finM hk z1
          refine eb_bind (P := fun t => t = ((F n).2, (F n).1, m6)) (eb_of (eb_loopF n (fun i => ((F i).2, (F i).1, nI i, m6)) ((F n).2, (F n).1, m6) (by rw [F0]; rfl) (fun i hi => ?_) ?_ (by unfold ea_fuel; omega)) rfl) fun t et => ?_
          · unfold f_X12_surest_s98 f_X12_surest_j147
            dsimp only
            rw [eb_birds, eb_clR, hK.1, if_neg (nI_ge hi (by omega)), nx i, nI_1]
            unfold eb_su
            by_cases q : eb_bit X i
            · rw [eb_hasT q, eb_clR, if_neg eb_ne10, eb_leastByM hK hn hi, eb_clR, if_pos q]
              by_cases q4 : eb_lb (eb_g8 (m 273)) n Y i ≤ (F i).1
              · rw [if_pos q4, if_neg (Int32.not_lt.mpr q4)]
              · rw [if_neg q4, if_pos (Int32.not_le.mp q4), eb_leastByM hK hn hi, eb_clR]
            · rw [eb_hasF q, eb_clR, if_pos rfl, if_neg q]
          · unfold f_X12_surest_s98
            dsimp only
            rw [eb_birds, eb_clR, hK.1, if_pos (nI_le (Nat.le_refl _) (by omega))]
          · subst et
            by_cases q3 : p3 = 0
            · rw [if_pos q3] at hu ⊢
              exact eb_some ⟨fin.1, fin.2.1.trans hu, fin.2.2⟩
            · rw [if_neg q3] at hu ⊢
              exact eb_some ⟨fin.1, fin.2.1.trans hu, fin.2.2⟩
    obtain rfl | rfl : s = 0 ∨ s = 1 := by omega
    · subst hss
      rw [if_pos (show nI 0 = 0 from rfl)]
      unfold f_X12_surest_j52
      rw [show f_X12_choices (nI k) 0 _ = _ from eb_chM h hn e1 hkk hs k273, eb_clR, if_pos (show nI 0 = 0 from rfl), ← eX]
      exact body
    · subst hss
      rw [if_neg (show ¬ nI 1 = 0 by decide)]
      unfold f_X12_surest_j52
      rw [show (1 : Int32) = nI 1 from rfl, eb_chM h hn e1 hkk hs k273, eb_clR, if_neg (show ¬ nI 1 = 0 by decide), ← eX]
      exact body
theorem eb_p_surest (p1 p2 p3 : Int32) (h2 : eb_bo p2) (_ : eb_bo p3) (h : eb_I m) : eb_P eb_I (f_L_surest p1 p2 p3 m) (f_X12_surest p1 p2 p3) := by
  obtain ⟨n, hn, e1, e2, e3⟩ := eb_IB h
  obtain ⟨c, hc, c3, c4, c5⟩ := eb_IK h
  have g0' : (ea_st m 272 0 0) 273 2 = nI c := c3
  rcases eb_ix (p := p1) (x := nI c) rfl (by omega) with hp | ⟨k, hk, rfl⟩
  · refine eb_Pk1 h (k := 1) (v := 0) ?_ ?_ (by decide)
    · unfold f_L_surest f_X11_surest
      rw [eb_needOpen1 c4 hp]
      rfl
    · unfold f_X12_surest
      rw [eb_bdR, eb_noCase p1 g0' (by omega), eb_clR, if_neg hp, eb_throwsIf1, eb_clR, if_neg eb_ne10]
  have hp := eb_ixT hk (show c < 2 ^ 31 by omega)
  by_cases hop : m 273 (77 + 4 * k) = 0
  · rcases h2 with rfl | rfl
    · exact eb_sure h hn e1 e3 (by rw [c5]; exact hk) hop p3 (s := 0) (s' := 1) (by decide) (by decide) rfl
    · exact eb_sure h hn e1 e3 (by rw [c5]; exact hk) hop p3 (s := 1) (s' := 0) (by decide) (by decide) rfl
  · refine eb_Pk1 h (k := 2) (v := 0) ?_ ?_ (by decide)
    · unfold f_L_surest f_X11_surest
      rw [eb_needOpen h (by rw [c5]; exact hk), if_neg hop]
      rfl
    · unfold f_X12_surest
      rw [eb_bdR, eb_noCase (nI k) g0' (by omega), eb_clR, if_pos hp, eb_throwsIf0, eb_clR, if_pos rfl, eb_isOpen (by omega), show (ea_st m 272 0 0) 273 = m 273 from rfl, if_neg hop, eb_clR, if_pos rfl]
      unfold f_X12_surest_j32
      rw [eb_throwsIf1, eb_clR, if_neg eb_ne10]
end SUREST
