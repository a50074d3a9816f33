section MOVES
variable {m m' : ea_M} {w : Nat → Int32}
theorem eb_looksE (a b c d : Int32) (m : ea_M) : f_X12_looks a b c d m = some (0, ea_st (ea_st (ea_st (ea_st m 272 18 a) 272 19 b) 272 20 c) 272 21 d) := rfl
theorem eb_looksB (m : ea_M) (b : Nat) (lv co br : Int32) : eb_B (ea_st (ea_st (ea_st (ea_st m 272 18 (nI b)) 272 19 lv) 272 20 co) 272 21 br) (m 273) b lv co br := by
  refine ⟨rfl, ?_, ?_, ?_, ?_⟩
  · rw [eb_stI _ _ _ (by decide), eb_stI _ _ _ (by decide), eb_stI _ _ _ (by decide), eb_st]
  · rw [eb_stI _ _ _ (by decide), eb_stI _ _ _ (by decide), eb_st]
  · rw [eb_stI _ _ _ (by decide), eb_st]
  · rw [eb_st]
theorem eb_WF_E (h : eb_WF m m') : eb_E m m' := eb_E_pt fun a i hs => by
  unfold eb_Sc at hs
  by_cases q : a = 16
  · subst q
    exact h.2.1 i (by omega) (by omega)
  · rw [h.1 a q (by omega) (by omega) (by omega)]
theorem eb_p_moves (p1 p2 p3 p4 p5 : Int32) (_ : eb_bo p5) (h : eb_I m) : eb_P eb_I (f_L_moves p1 p2 p3 p4 p5 m) (f_X12_moves p1 p2 p3 p4 p5) := by
  obtain ⟨n, hn, e1, e2, e3⟩ := eb_IB h
  have g0 : ∀ v, (ea_st (ea_st m 287 0 v) 272 0 0) 273 0 = nI n := fun v => e1
  have g0' : (ea_st m 272 0 0) 273 0 = nI n := e1
  have cls : f_L_moves p1 p2 p3 p4 p5 m = ea_cx (f_X11_moves p1 p2 p3 p4 p5 m) (fun r2 m1 => ea_bd (ea_st m1 287 0 r2) fun m3 => some (0, m3)) (fun kx m4 => if kx = 1 then some (1, m4) else if kx = 2 then some (2, m4) else none) := rfl
  rcases eb_ix (p := p1) (x := nI n) rfl (by omega) with hp | ⟨b, hb, rfl⟩
  · refine eb_Pk1 h (k := 1) (v := 0) ?_ ?_ (by decide)
    · unfold f_L_moves f_X11_moves
      rw [eb_needBird, e2, if_neg hp]
      rfl
    · unfold f_X12_moves
      rw [eb_bdR, eb_noBird p1 g0' (by omega), eb_clR, if_neg hp, if_neg eb_ne10]
      unfold f_X12_moves_j32 f_X12_moves_j37
      rw [eb_throwsIf1, eb_clR, if_neg eb_ne10]
  have hp := eb_ixT hb (show n < 2 ^ 31 by omega)
  by_cases hl : 1 ≤ p2 ∧ p2 < nI 13
  · obtain ⟨v, hv, ev⟩ : ∃ v, v < 13 ∧ p2 = nI v := by
      rcases pk_ix p2 (n := 13) (by decide) with z | z | z
      · exact absurd (Int32.le_trans (by decide) hl.1) (Int32.not_le.mpr z)
      · exact absurd hl.2 (Int32.not_lt.mpr z)
      · exact z
    have hl0 : 0 ≤ p2 ∧ p2 < nI 13 := ⟨Int32.le_trans (by decide) hl.1, hl.2⟩
    have hne : ¬ p2 = 0 := fun z => absurd hl.1 (by rw [z]; decide)
    by_cases hc : 0 ≤ p3 ∧ p3 < nI 16
    · by_cases h4 : 0 ≤ p4 ∧ p4 ≤ 7
      · rw [cls]
        refine eb_Lw (fun u m1 => eb_WF m m1 ∧ u = if p5 = 0 then eb_sk (m 273) (nI b) p2 p3 p4 else eb_cr (m 273) (nI b) p2 p3 p4) ?_ ?_
        · unfold f_X11_moves
          rw [eb_needBird, e2, if_pos hp, eb_cx0, eb_needLevel, if_pos hl, eb_cx0, eb_needColumn, if_pos hc, eb_cx0, eb_needWithin, if_pos h4, eb_cx0]
          have hA := eb_A_of h
          rw [e3] at hA
          rw [ev]
          refine eb_cl (eb_weigh0 (co := p3) (br := p4) hA hn hb hv) fun r m9 hz => ?_
          dsimp only at hz
          by_cases q : p5 = 0
          · rw [if_pos q, if_pos q, eb_bdR, hz.2.1]
            exact eb_some ⟨rfl, hz.1, rfl⟩
          · rw [if_neg q, if_neg q, eb_bdR, hz.2.2]
            exact eb_some ⟨rfl, hz.1, rfl⟩
        · rintro u m1 ⟨hW, hu⟩
          have e273 : (ea_st (ea_st m1 287 0 u) 272 0 0) 273 = m 273 := by
            rw [eb_stA _ _ _ (by decide), eb_stA _ _ _ (by decide), hW.1 273 (by decide) (by decide) (by decide) (by decide)]
          unfold f_X12_moves
          rw [eb_bdR, eb_noBird (nI b) (n := n) (by rw [e273]; exact e1) (by omega), eb_clR, if_pos hp, if_pos rfl, eb_noLevel, eb_clR, if_pos hl0, if_pos rfl, if_neg hne, eb_noColumn, eb_clR, if_pos hc, if_pos rfl]
          unfold f_X12_moves_j37
          rw [eb_throwsIf0, eb_clR, if_pos rfl, eb_inW, if_pos h4, eb_clR, if_neg eb_ne10]
          unfold f_X12_moves_j61
          rw [eb_throwsIf0, eb_clR, if_pos rfl, eb_looksE, eb_clR]
          have hB := eb_looksB (ea_st (ea_st m1 287 0 u) 272 0 0) b p2 p3 p4
          rw [e273] at hB
          have fin : ∀ y : ea_M, (∀ r, r ≠ 280 → y r = (ea_st (ea_st (ea_st (ea_st (ea_st (ea_st m1 287 0 u) 272 0 0) 272 18 (nI b)) 272 19 p2) 272 20 p3) 272 21 p4) r) → y 272 0 = 0 ∧ y 287 0 = u ∧ eb_I y := fun y hy => by
            refine ⟨?_, ?_, eb_I_cg (eb_E_trans (eb_WF_E hW) (eb_E_pt fun a i hs => ?_)) h⟩
            · rw [hy 272 (by decide), eb_stI _ _ _ (by decide), eb_stI _ _ _ (by decide), eb_stI _ _ _ (by decide), eb_stI _ _ _ (by decide), eb_st]
            · rw [hy 287 (by decide), eb_stA _ _ _ (by decide), eb_stA _ _ _ (by decide), eb_stA _ _ _ (by decide), eb_stA _ _ _ (by decide), eb_stA _ _ _ (by decide), eb_st]
            · unfold eb_Sc at hs
              rw [hy a (by omega), eb_sts, if_neg (by omega), eb_sts, if_neg (by omega), eb_sts, if_neg (by omega), eb_sts, if_neg (by omega), eb_sts, if_neg (by omega), eb_sts, if_neg (by omega)]
          by_cases q : p5 = 0
          · rw [if_pos q] at hu ⊢
            refine eb_cl (eb_sinksM hB (by omega) h.1.2.1) fun r y hz => eb_some ?_
            obtain ⟨y1, y2, y3⟩ := fin y hz.2
            exact ⟨y1, y2.trans (hu.trans hz.1.symm), y3⟩
          · rw [if_neg q] at hu ⊢
            rw [ev] at hB hu
            refine eb_cl (eb_carriesM (v := v) (by rw [ev]; exact hB) (by omega) hv h.1.2.1) fun r y hz => eb_some ?_
            obtain ⟨y1, y2, y3⟩ := fin y hz.2
            exact ⟨y1, y2.trans (hu.trans hz.1.symm), y3⟩
      · refine eb_Pk1 h (k := 2) (v := 0) ?_ ?_ (by decide)
        · unfold f_L_moves f_X11_moves
          rw [eb_needBird, e2, if_pos hp, eb_cx0, eb_needLevel, if_pos hl, eb_cx0, eb_needColumn, if_pos hc, eb_cx0, eb_needWithin, if_neg h4]
          rfl
        · unfold f_X12_moves
          rw [eb_bdR, eb_noBird (nI b) g0' (by omega), eb_clR, if_pos hp, if_pos rfl, eb_noLevel, eb_clR, if_pos hl0, if_pos rfl, if_neg hne, eb_noColumn, eb_clR, if_pos hc, if_pos rfl]
          unfold f_X12_moves_j37
          rw [eb_throwsIf0, eb_clR, if_pos rfl, eb_inW, if_neg h4, eb_clR, if_pos rfl]
          unfold f_X12_moves_j61
          rw [eb_throwsIf1, eb_clR, if_neg eb_ne10]
    · refine eb_Pk1 h (k := 1) (v := 0) ?_ ?_ (by decide)
      · unfold f_L_moves f_X11_moves
        rw [eb_needBird, e2, if_pos hp, eb_cx0, eb_needLevel, if_pos hl, eb_cx0, eb_needColumn, if_neg hc]
        rfl
      · unfold f_X12_moves
        rw [eb_bdR, eb_noBird (nI b) g0' (by omega), eb_clR, if_pos hp, if_pos rfl, eb_noLevel, eb_clR, if_pos hl0, if_pos rfl, if_neg hne, eb_noColumn, eb_clR, if_neg hc, if_neg eb_ne10]
        unfold f_X12_moves_j32 f_X12_moves_j37
        rw [eb_throwsIf1, eb_clR, if_neg eb_ne10]
  · refine eb_Pk1 h (k := 1) (v := 0) ?_ ?_ (by decide)
    · unfold f_L_moves f_X11_moves
      rw [eb_needBird, e2, if_pos hp, eb_cx0, eb_needLevel, if_neg hl]
      rfl
    · unfold f_X12_moves
      rw [eb_bdR, eb_noBird (nI b) g0' (by omega), eb_clR, if_pos hp, if_pos rfl, eb_noLevel, eb_clR]
      by_cases hl0 : 0 ≤ p2 ∧ p2 < nI 13
      · have hz : p2 = 0 := by
          rcases pk_ix p2 (n := 13) (by decide) with z | z | ⟨j, hj, rfl⟩
          · exact absurd hl0.1 (Int32.not_le.mpr z)
          · exact absurd hl0.2 (Int32.not_lt.mpr z)
          · by_cases q : j = 0
            · subst q; rfl
            · exact absurd ⟨nI_le (a := 1) (by omega) (by omega), hl0.2⟩ hl
        rw [if_pos hl0, if_pos rfl, if_pos hz]
        unfold f_X12_moves_j32 f_X12_moves_j37
        rw [eb_throwsIf1, eb_clR, if_neg eb_ne10]
      · rw [if_neg hl0, if_neg eb_ne10]
        unfold f_X12_moves_j32 f_X12_moves_j37
        rw [eb_throwsIf1, eb_clR, if_neg eb_ne10]
end MOVES
