section ODDS
variable {m m1 mm z : ea_M} {w : Nat → Int32} {g : Nat → Nat → Int32} {n i j k : Nat} {I : ea_M → Prop}
/-- thrown behind a reckoning -/
theorem eb_Lk {y : Option ea_O} {g : Nat → ea_M → Option (Int32 × ea_M)} {f : ea_M → Option (Int32 × ea_M)} {f0 : Int32 → ea_M → Option (Int32 × ea_M)} (R : ea_M → Prop) (k : Nat) (c : Int32) (hk : k ≠ 0) (hc : c ≠ 0) (hg : ∀ m1, g k m1 = some (c, m1)) (hy : eb_W y (fun o => o.1 = k ∧ R o.2.2)) (hf : ∀ m1, R m1 → eb_W (f m1) (fun y => y.2 272 0 = c ∧ I y.2)) : eb_P I (ea_cx y f0 g) f := by
  refine eb_cx hy (fun r m1 h1 => absurd h1.1.symm hk) (fun k' r m1 _ h1 => ?_)
  have : k' = k := h1.1
  subst this
  rw [hg]
  exact eb_some (eb_mono (hf m1 h1.2) fun y hy => ⟨hy.1, fun z => absurd z hc, hy.2⟩)
theorem eb_p_odds (p1 p2 p3 : Int32) (h : eb_I m) : eb_P eb_I (f_L_odds p1 p2 p3 m) (f_X12_odds p1 p2 p3) := by
  obtain ⟨n, hn, e1, e2, e3⟩ := eb_IB h
  have g0' : (ea_st m 272 0 0) 273 0 = nI n := e1
  rcases eb_ix (p := p1) (x := nI n) rfl (by omega) with hp | ⟨b, hb, rfl⟩
  · refine eb_Pk1 h (k := 1) (v := 0) ?_ ?_ (by decide)
    · unfold f_L_odds f_X11_odds
      rw [eb_needBird, e2, if_neg hp]
      rfl
    · unfold f_X12_odds
      rw [eb_bdR, eb_noBird p1 g0' (by omega), eb_clR, if_neg hp, if_neg eb_ne10]
      unfold f_X12_odds_j22 f_X12_odds_j27
      rw [eb_throwsIf1, eb_clR, if_neg eb_ne10]
  have hp := eb_ixT hb (show n < 2 ^ 31 by omega)
  rcases eb_ix (p := p2) (x := nI n) rfl (by omega) with hc | ⟨c, hc, rfl⟩
  · refine eb_Pk1 h (k := 1) (v := 0) ?_ ?_ (by decide)
    · unfold f_L_odds f_X11_odds
      rw [eb_needBird, e2, if_pos hp, eb_cx0, eb_needBird, e2, if_neg hc]
      rfl
    · unfold f_X12_odds
      rw [eb_bdR, eb_noBird (nI b) g0' (by omega), eb_clR, if_pos hp, if_pos rfl, eb_noBird p2 g0' (by omega), eb_clR, if_neg hc, if_neg eb_ne10]
      unfold f_X12_odds_j22 f_X12_odds_j27
      rw [eb_throwsIf1, eb_clR, if_neg eb_ne10]
  have hc' := eb_ixT hc (show n < 2 ^ 31 by omega)
  by_cases hq : 0 ≤ p3 ∧ p3 ≤ 3
  · obtain ⟨B, eB⟩ : ∃ B, B = eb_S (fun k => eb_g8 (m 273) b k * eb_g8 (m 273) c k) 8 := ⟨_, rfl⟩
    obtain ⟨N, eN⟩ : ∃ N, N = eb_ng (eb_g8 (m 273) b) 8 * eb_ng (eb_g8 (m 273) c) 8 := ⟨_, rfl⟩
    obtain ⟨H, eH⟩ : ∃ H, H = eb_hs (eb_g8 (m 273)) b c := ⟨_, rfl⟩
    obtain ⟨J, eJ⟩ : ∃ J, J = eb_hs (eb_g8 (m 273)) c b := ⟨_, rfl⟩
    unfold f_L_odds
    refine eb_Lw (fun u m1 => eb_kf m m1 ∧ u = if p3 = 0 then H else if p3 = 1 then J else if p3 = 2 then B else N) ?_ ?_
    · unfold f_X11_odds
      rw [eb_needBird, e2, if_pos hp, eb_cx0, eb_needBird, e2, if_pos hc', eb_cx0]
      refine eb_cl (eb_reckonF h) fun r m3 hk => ?_
      have hk : eb_kf m m3 := hk
      have hK := eb_KA_of h e3 hk
      by_cases q0 : p3 = 0
      · rw [if_pos q0, if_pos q0, eb_hasItA hK hn hb hc, eb_clR, ← eH]
        exact eb_some ⟨rfl, hk, rfl⟩
      · rw [if_neg q0, if_neg q0]
        by_cases q1 : p3 = 1
        · rw [if_pos q1, if_pos q1, eb_hasItA hK hn hc hb, eb_clR, ← eJ]
          exact eb_some ⟨rfl, hk, rfl⟩
        · rw [if_neg q1, if_neg q1]
          by_cases q2 : p3 = 2
          · rw [if_pos q2, if_pos q2, eb_gN (j := b) (by omega) (by decide), eb_bdR, nI_clamp (n := b) (by omega), eb_rFates b (by omega), eb_gN (by omega) (by decide), eb_bdR, nI_clamp (by omega), eb_rFates c (by omega), eb_togetherA (hK.2 b hb) (hK.2 c hc), eb_clR, ← eB]
            exact eb_some ⟨rfl, hk, rfl⟩
          · have q3 : p3 = 3 := by
              rcases pk_ix p3 (n := 4) (by decide) with y | y | ⟨v, hv, rfl⟩
              · exact absurd hq.1 (Int32.not_le.mpr y)
              · exact absurd (Int32.le_trans y hq.2) (by decide)
              · obtain rfl | rfl | rfl | rfl : v = 0 ∨ v = 1 ∨ v = 2 ∨ v = 3 := by omega
                · exact absurd rfl q0
                · exact absurd rfl q1
                · exact absurd rfl q2
                · rfl
            rw [if_neg q2, if_neg q2, if_pos q3, eb_gN (j := b) (by omega) (by decide), eb_bdR, nI_clamp (n := b) (by omega), eb_rFates b (by omega), eb_gN (by omega) (by decide), eb_bdR, nI_clamp (by omega), eb_rFates c (by omega), eb_neitherA (hK.2 b hb) (hK.2 c hc), eb_clR, ← eN]
            exact eb_some ⟨rfl, hk, rfl⟩
    · rintro u m1 ⟨hk, hu⟩
      have k273 := eb_k273 (u := u) hk
      have k0 : (ea_st (ea_st m1 287 0 u) 272 0 0) 273 0 = nI n := by rw [k273]; exact e1
      unfold f_X12_odds
      rw [eb_bdR, eb_noBird (nI b) (n := n) k0 (by omega), eb_clR, if_pos hp, if_pos rfl, eb_noBird (nI c) (n := n) k0 (by omega), eb_clR, if_pos hc', if_pos rfl]
      unfold f_X12_odds_j27
      rw [eb_throwsIf0, eb_clR, if_pos rfl, eb_inW, if_pos hq, eb_clR, if_neg eb_ne10]
      unfold f_X12_odds_j49
      rw [eb_throwsIf0, eb_clR, if_pos rfl]
      refine eb_cl (eb_laysAll hn k273 e1 (eb_OK_of h)) fun r m16 hz => ?_
      obtain ⟨z1, hK⟩ := hz
      have hK : eb_KM m16 n (eb_g8 (m 273)) := hK
      have fin := eb_finM hk z1
      by_cases q0 : p3 = 0
      · rw [if_pos q0] at hu ⊢
        rw [eb_firstHasM hK hn hb hc, eb_clR, ← eH]
        exact eb_some ⟨fin.1, fin.2.1.trans hu, fin.2.2⟩
      · rw [if_neg q0] at hu ⊢
        by_cases q1 : p3 = 1
        · rw [if_pos q1] at hu ⊢
          rw [eb_firstHasM hK hn hc hb, eb_clR, ← eJ]
          exact eb_some ⟨fin.1, fin.2.1.trans hu, fin.2.2⟩
        · rw [if_neg q1] at hu ⊢
          by_cases q2 : p3 = 2
          · rw [if_pos q2] at hu ⊢
            rw [eb_bothHaveM hK hn hb hc, eb_clR, ← eB]
            exact eb_some ⟨fin.1, fin.2.1.trans hu, fin.2.2⟩
          · rw [if_neg q2] at hu ⊢
            rw [show (8 : Int32) = nI 8 from rfl, eb_notGoodM hK hn hb (Nat.le_refl _), eb_clR, eb_notGoodM hK hn hc (Nat.le_refl _), eb_clR, ← eN]
            exact eb_some ⟨fin.1, fin.2.1.trans hu, fin.2.2⟩
  · unfold f_L_odds
    refine eb_Lk (fun m1 => eb_kf m m1) 4 2 (by decide) (by decide) (fun _ => rfl) ?_ ?_
    · unfold f_X11_odds
      rw [eb_needBird, e2, if_pos hp, eb_cx0, eb_needBird, e2, if_pos hc', eb_cx0]
      refine eb_cl (eb_reckonF h) fun r m3 hk => ?_
      have hk : eb_kf m m3 := hk
      rw [if_neg (fun z => hq (by rw [z]; decide)), if_neg (fun z => hq (by rw [z]; decide)), if_neg (fun z => hq (by rw [z]; decide)), if_neg (fun z => hq (by rw [z]; decide))]
      exact eb_some ⟨rfl, hk⟩
    · intro m1 hk
      have k273 : (ea_st m1 272 0 0) 273 0 = nI n := by
        rw [eb_stA _ _ _ (by decide), hk.2.1]; exact e1
      unfold f_X12_odds
      rw [eb_bdR, eb_noBird (nI b) (n := n) k273 (by omega), eb_clR, if_pos hp, if_pos rfl, eb_noBird (nI c) (n := n) k273 (by omega), eb_clR, if_pos hc', if_pos rfl]
      unfold f_X12_odds_j27
      rw [eb_throwsIf0, eb_clR, if_pos rfl, eb_inW, if_neg hq, eb_clR, if_pos rfl]
      unfold f_X12_odds_j49
      rw [eb_throwsIf1, eb_clR, if_neg eb_ne10]
      exact eb_some ⟨eb_st (ea_st m1 272 0 0) 272 0 2, eb_I_cg (eb_E1 m1 2) hk.1⟩
/-- the best so far: what it has, which it is -/
noncomputable def eb_be (g : Nat → Nat → Int32) (p : Int32) (c i : Nat) (s : Int32 × Int32) : Int32 × Int32 :=
  haveI := Classical.propDecidable (eb_bit p i); if eb_bit p i then (if eb_hs g i c ≤ s.1 then s else (eb_hs g i c, nI i)) else s
theorem eb_be_ok (ok : eb_OK w) (p : Int32) (c : Nat) : ∀ i, eb_F (eb_be (eb_g8 w) p c) (-1, -1) i = (-1, -1) ∨ ∃ j, j < i ∧ eb_F (eb_be (eb_g8 w) p c) (-1, -1) i = (eb_hs (eb_g8 w) j c, nI j)
  | 0 => Or.inl rfl
  | i + 1 => by
    have nx : eb_F (eb_be (eb_g8 w) p c) (-1, -1) (i + 1) = eb_be (eb_g8 w) p c i (eb_F (eb_be (eb_g8 w) p c) (-1, -1) i) := rfl
    rw [nx]
    have ih := eb_be_ok ok p c i
    obtain ⟨s, es⟩ : ∃ s, s = eb_F (eb_be (eb_g8 w) p c) (-1, -1) i := ⟨_, rfl⟩
    rw [← es] at ih ⊢
    have keep : s = (-1, -1) ∨ ∃ j, j < i + 1 ∧ s = (eb_hs (eb_g8 w) j c, nI j) := by
      rcases ih with y | ⟨j, hj, y⟩
      · exact Or.inl y
      · exact Or.inr ⟨j, by omega, y⟩
    unfold eb_be
    by_cases q : eb_bit p i
    · rw [if_pos q]
      by_cases q2 : eb_hs (eb_g8 w) i c ≤ s.1
      · rw [if_pos q2]; exact keep
      · rw [if_neg q2]; exact Or.inr ⟨i, by omega, rfl⟩
    · rw [if_neg q]; exact keep
theorem eb_p_best (p1 p2 : Int32) (h : eb_I m) : eb_P eb_I (f_L_best p1 p2 m) (f_X12_best p1 p2) := by
  obtain ⟨n, hn, e1, e2, e3⟩ := eb_IB h
  have g0' : (ea_st m 272 0 0) 273 0 = nI n := e1
  rcases eb_ix (p := p1) (x := nI n) rfl (by omega) with hp | ⟨c, hc, rfl⟩
  · refine eb_Pk1 h (k := 1) (v := 0) ?_ ?_ (by decide)
    · unfold f_L_best f_X11_best
      rw [eb_needBird, e2, if_neg hp]
      rfl
    · unfold f_X12_best
      rw [eb_bdR, eb_noBird p1 g0' (by omega), eb_clR, if_neg hp, eb_throwsIf1, eb_clR, if_neg eb_ne10]
  have hp := eb_ixT hc (show n < 2 ^ 31 by omega)
  have ok := eb_OK_of h
  obtain ⟨F, eF⟩ : ∃ F, F = eb_F (eb_be (eb_g8 (m 273)) p2 c) (-1, -1) := ⟨_, rfl⟩
  have nx : ∀ i, F (i + 1) = eb_be (eb_g8 (m 273)) p2 c i (F i) := fun i => by rw [eF]; rfl
  have F0 : F 0 = (-1, -1) := by rw [eF]; rfl
  have Fok := fun i => eb_be_ok ok p2 c i
  rw [← eF] at Fok
  unfold f_L_best
  refine eb_Lw (fun u m1 => eb_kf m m1 ∧ u = (F n).2) ?_ ?_
  · unfold f_X11_best
    rw [eb_needBird, e2, if_pos hp, eb_cx0]
    refine eb_cl (eb_reckonF h) fun r m3 hk => ?_
    have hk : eb_kf m m3 := hk
    have hK := eb_KA_of h e3 hk
    refine eb_of (t := (0, (F n).2, m3)) (eb_loopB n (fun i => ((F i).1, (F i).2, nI i, m3)) ((F n).2, m3) (by rw [F0]; rfl) (fun i hi => ?_) ?_ (by unfold ea_fuel; omega) rfl) ⟨rfl, hk, rfl⟩
    · unfold f_X11_best_s17 f_X11_best_j63
      dsimp only
      rw [hK.1, eb_bdR, if_neg (nI_ge hi (by omega)), eb_bdR, nx i, nI_1]
      unfold eb_be
      by_cases q : eb_bit p2 i
      · rw [if_neg (fun z => (eb_bit0 _ _).mp z q), eb_hasItA hK hn hi hc, eb_clR, if_pos q]
        by_cases q2 : eb_hs (eb_g8 (m 273)) i c ≤ (F i).1
        · rw [if_pos q2, if_pos q2]
        · rw [if_neg q2, if_neg q2]
      · rw [if_pos ((eb_bit0 _ _).mpr q), if_neg q]
    · unfold f_X11_best_s17
      dsimp only
      rw [hK.1, eb_bdR, if_pos (nI_le (Nat.le_refl _) (by omega))]
  · rintro u m1 ⟨hk, hu⟩
    have k273 := eb_k273 (u := u) hk
    have k0 : (ea_st (ea_st m1 287 0 u) 272 0 0) 273 0 = nI n := by rw [k273]; exact e1
    unfold f_X12_best
    rw [eb_bdR, eb_noBird (nI c) (n := n) k0 (by omega), eb_clR, if_pos hp, eb_throwsIf0, eb_clR, if_pos rfl]
    refine eb_cl (eb_laysAll hn k273 e1 ok) fun r m6 hz => ?_
    obtain ⟨z1, hK⟩ := hz
    have hK : eb_KM m6 n (eb_g8 (m 273)) := hK
    have fin := eb_finM hk z1
    refine eb_of (t := ((F n).2, m6)) (eb_loopB n (fun i => ((F i).2, nI i, m6)) ((F n).2, m6) (by rw [F0]; rfl) (fun i hi => ?_) ?_ (by unfold ea_fuel; omega) rfl) ⟨fin.1, fin.2.1.trans hu, fin.2.2⟩
    · unfold f_X12_best_s29 f_X12_best_j67 f_X12_best_j70
      dsimp only
      rw [eb_birds, eb_clR, hK.1, if_neg (nI_ge hi (by omega)), nx i, nI_1]
      unfold eb_be
      by_cases q : eb_bit p2 i
      · rw [eb_hasT q, eb_clR, if_neg eb_ne10, if_pos q]
        rcases Fok i with y | ⟨j, hj, y⟩
        · obtain ⟨x, hx, ex⟩ := eb_hsN ok i c
          rw [y, if_pos (by decide), if_neg (Int32.not_le.mpr (by rw [ex]; exact Int32.lt_of_lt_of_le (show (-1 : Int32) < 0 by decide) (nI_le (a := 0) (Nat.zero_le _) (by omega))))]
        · rw [y]
          dsimp only
          rw [if_neg (show ¬ nI j < 0 from nI_nlt (b := 0) (Nat.zero_le _) (by omega)), eb_firstHasM hK hn hi hc, eb_clR, eb_firstHasM hK hn (by omega) hc, eb_clR]
          by_cases q2 : eb_hs (eb_g8 (m 273)) i c ≤ eb_hs (eb_g8 (m 273)) j c
          · rw [if_pos q2, if_pos q2]
          · rw [if_neg q2, if_neg q2]
      · rw [eb_hasF q, eb_clR, if_pos rfl, if_neg q]
    · unfold f_X12_best_s29
      dsimp only
      rw [eb_birds, eb_clR, hK.1, if_pos (nI_le (Nat.le_refl _) (by omega))]
end ODDS
