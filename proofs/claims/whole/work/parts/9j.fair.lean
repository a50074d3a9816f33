section FAIR
variable {m m1 mm z : ea_M} {w : Nat → Int32} {g : Nat → Nat → Int32} {n i j k : Nat}
noncomputable def eb_fs (g : Nat → Nat → Int32) (X Y : Int32) (i j : Nat) (s : Int32 × Int32) : Int32 × Int32 :=
  haveI := Classical.propDecidable (eb_bit X i ∧ eb_bit Y j); if eb_bit X i ∧ eb_bit Y j then (if s.1 ≤ ea_abs (eb_hs g i j - eb_hs g j i) then s else (ea_abs (eb_hs g i j - eb_hs g j i), nI (10 * i + j))) else s
theorem eb_code (i j : Nat) : (10 : Int32) * nI i + nI j = nI (10 * i + j) := by
  show nI 10 * nI i + nI j = _
  rw [pk_mul, nI_add]
theorem eb_fairA (hK : eb_KA m n g) (hn : n ≤ 6) (X Y : Int32) (s : Int32 × Int32) : ea_loop (f_X11_fair_s46 X Y) ea_fuel (s.1, s.2, 0, m) = some ((eb_F (fun i t => eb_F (eb_fs g X Y i) t n) s n).2, m) := by
  obtain ⟨F, eF⟩ : ∃ F, F = eb_F (fun i t => eb_F (eb_fs g X Y i) t n) s := ⟨_, rfl⟩
  have F0 : F 0 = s := by rw [eF]; rfl
  have nx : ∀ i, F (i + 1) = eb_F (eb_fs g X Y i) (F i) n := fun i => by rw [eF, eb_F_s]
  rw [← eF]
  refine eb_loopF n (fun i => ((F i).1, (F i).2, nI i, m)) ((F n).2, m) (by rw [F0]; rfl) (fun i hi => ?_) ?_ (by unfold ea_fuel; omega)
  · unfold f_X11_fair_s46
    dsimp only
    rw [hK.1, eb_bdR, if_neg (nI_ge hi (by omega)), nx i, nI_1]
    obtain ⟨H, eH⟩ : ∃ H, H = eb_F (eb_fs g X Y i) (F i) := ⟨_, rfl⟩
    have H0 : H 0 = F i := by rw [eH]; rfl
    have hx : ∀ j, H (j + 1) = eb_fs g X Y i j (H j) := fun j => by rw [eH, eb_F_s]
    rw [← eH]
    refine eb_loopB n (fun j => ((H j).1, (H j).2, nI j, m)) ((H n).1, (H n).2, m) (by rw [H0]; rfl) (fun j hj => ?_) ?_ (by unfold ea_fuel; omega) rfl
    · unfold f_X11_fair_s61 f_X11_fair_j137
      dsimp only
      rw [hK.1, eb_bdR, if_neg (nI_ge hj (by omega)), eb_bdR, hx j, nI_1]
      unfold eb_fs
      by_cases q : eb_bit X i
      · rw [if_neg (fun z => (eb_bit0 _ _).mp z q), eb_bdR]
        by_cases q2 : eb_bit Y j
        · rw [if_neg (fun z => (eb_bit0 _ _).mp z q2), eb_hasItA hK hn hi hj, eb_clR, eb_hasItA hK hn hj hi, eb_clR, eb_bdR, if_pos (show eb_bit X i ∧ eb_bit Y j from ⟨q, q2⟩)]
          by_cases q3 : (H j).1 ≤ ea_abs (eb_hs g i j - eb_hs g j i)
          · rw [if_pos q3, if_pos q3]
          · rw [if_neg q3, if_neg q3, eb_bdR, eb_code]
        · rw [if_pos ((eb_bit0 _ _).mpr q2), if_neg (show ¬ (eb_bit X i ∧ eb_bit Y j) from fun z => q2 z.2)]
      · rw [if_pos ((eb_bit0 _ _).mpr q), if_neg (show ¬ (eb_bit X i ∧ eb_bit Y j) from fun z => q z.1)]
    · unfold f_X11_fair_s61
      dsimp only
      rw [hK.1, eb_bdR, if_pos (nI_le (Nat.le_refl _) (by omega))]
  · unfold f_X11_fair_s46
    dsimp only
    rw [hK.1, eb_bdR, if_pos (nI_le (Nat.le_refl _) (by omega))]
def eb_ph (a : Int32) : Int32 := if a = 43046722 then 43046722 else a
theorem eb_absN (ok : eb_OK w) (i j : Nat) : ∃ x, x ≤ 43046721 ∧ ea_abs (eb_hs (eb_g8 w) i j - eb_hs (eb_g8 w) j i) = nI x := by
  obtain ⟨x, hx, ex⟩ := eb_hsN ok i j
  obtain ⟨y, hy, ey⟩ := eb_hsN ok j i
  rw [ex, ey]
  unfold ea_abs
  by_cases q : y ≤ x
  · rw [pk_sub q, if_pos (show 0 ≤ nI (x - y) from nI_le (a := 0) (Nat.zero_le _) (by omega))]
    exact ⟨x - y, by omega, rfl⟩
  · rw [if_neg]
    · refine ⟨y - x, by omega, ?_⟩
      rw [← pk_sub (show x ≤ y by omega), Int32.zero_sub, Int32.neg_sub]
    · rw [eb_le_iff, pk_sub_toInt (by omega) (by omega), eb_t0]
      omega
theorem eb_fairM (h : eb_I m) (hn : n ≤ 6) (e1 : m 273 0 = nI n) (hkk : k < eb_k (m 273)) {X Y : Int32} (eX : X = eb_chs (m 273) k 0) (eY : Y = eb_chs (m 273) k 1) (e273 : mm 273 = m 273) (hK : eb_KM mm n (eb_g8 (m 273))) (s : Int32 × Int32) : ea_loop (f_X12_fair_s54 (nI k)) ea_fuel (s.2, eb_ph s.1, 0, mm) = some ((eb_F (fun i t => eb_F (eb_fs (eb_g8 (m 273)) X Y i) t n) s n).2, mm) := by
  have ok := eb_OK_of h
  obtain ⟨F, eF⟩ : ∃ F, F = eb_F (fun i t => eb_F (eb_fs (eb_g8 (m 273)) X Y i) t n) s := ⟨_, rfl⟩
  have F0 : F 0 = s := by rw [eF]; rfl
  have nx : ∀ i, F (i + 1) = eb_F (eb_fs (eb_g8 (m 273)) X Y i) (F i) n := fun i => by rw [eF, eb_F_s]
  rw [← eF]
  refine eb_loopF n (fun i => ((F i).2, eb_ph (F i).1, nI i, mm)) ((F n).2, mm) (by rw [F0]; rfl) (fun i hi => ?_) ?_ (by unfold ea_fuel; omega)
  · unfold f_X12_fair_s54
    dsimp only
    rw [eb_birds, eb_clR, hK.1, if_neg (nI_ge hi (by omega)), nx i, nI_1]
    obtain ⟨H, eH⟩ : ∃ H, H = eb_F (eb_fs (eb_g8 (m 273)) X Y i) (F i) := ⟨_, rfl⟩
    have H0 : H 0 = F i := by rw [eH]; rfl
    have hx : ∀ j, H (j + 1) = eb_fs (eb_g8 (m 273)) X Y i j (H j) := fun j => by rw [eH, eb_F_s]
    rw [← eH]
    refine eb_loopB n (fun j => ((H j).2, eb_ph (H j).1, nI j, mm)) ((H n).2, eb_ph (H n).1, mm) (by rw [H0]; rfl) (fun j hj => ?_) ?_ (by unfold ea_fuel; omega) rfl
    · unfold f_X12_fair_s66 f_X12_fair_j149
      dsimp only
      rw [eb_birds, eb_clR, hK.1, if_neg (nI_ge hj (by omega)), show f_X12_choices (nI k) 0 mm = _ from eb_chM (s := 0) h hn e1 hkk (by decide) e273, eb_clR, ← eX, hx j, nI_1]
      unfold eb_fs
      by_cases q : eb_bit X i
      · rw [eb_hasT q, eb_clR, if_neg eb_ne10, show f_X12_choices (nI k) 1 mm = _ from eb_chM (s := 1) h hn e1 hkk (by decide) e273, eb_clR, ← eY]
        by_cases q2 : eb_bit Y j
        · obtain ⟨x, hx, ex⟩ := eb_absN ok i j
          rw [eb_hasT q2, eb_clR, if_neg eb_ne10, eb_firstHasM hK hn hi hj, eb_clR, eb_firstHasM hK hn hj hi, eb_clR, eb_bdR, if_pos (show eb_bit X i ∧ eb_bit Y j from ⟨q, q2⟩), ex, eb_code]
          have px : eb_ph (nI x) = nI x := if_neg (fun y => by
            have := congrArg Int32.toInt y
            rw [nI_toInt (by omega), show (43046722 : Int32).toInt = 43046722 from by decide] at this
            omega)
          by_cases q3 : (H j).1 ≤ nI x
          · rw [if_pos q3, if_neg]
            unfold eb_ph
            rw [if_neg]
            · exact Int32.not_lt.mpr q3
            · intro y
              rw [y, eb_le_iff, nI_toInt (by omega), show (43046722 : Int32).toInt = 43046722 from by decide] at q3
              omega
          · rw [if_neg q3, if_pos, eb_bdR]
            · show _ = some (Sum.inl (nI (10 * i + j), eb_ph (nI x), nI (j + 1), mm))
              rw [px]
            · unfold eb_ph
              by_cases q4 : (H j).1 = 43046722
              · rw [if_pos q4, eb_lt_iff, nI_toInt (by omega), show (43046722 : Int32).toInt = 43046722 from by decide]
                omega
              · rw [if_neg q4]
                exact Int32.not_le.mp q3
        · rw [eb_hasF q2, eb_clR, if_pos rfl, if_neg (show ¬ (eb_bit X i ∧ eb_bit Y j) from fun z => q2 z.2)]
      · rw [eb_hasF q, eb_clR, if_pos rfl, if_neg (show ¬ (eb_bit X i ∧ eb_bit Y j) from fun z => q z.1)]
    · unfold f_X12_fair_s66
      dsimp only
      rw [eb_birds, eb_clR, hK.1, if_pos (nI_le (Nat.le_refl _) (by omega))]
  · unfold f_X12_fair_s54
    dsimp only
    rw [eb_birds, eb_clR, hK.1, if_pos (nI_le (Nat.le_refl _) (by omega))]
theorem eb_p_fair (p1 : Int32) (h : eb_I m) : eb_P eb_I (f_L_fair p1 m) (f_X12_fair p1) := by
  obtain ⟨n, hn, e1, e2, e3⟩ := eb_IB h
  obtain ⟨c, hc, c3, c4, c5⟩ := eb_IK h
  have g0' : (ea_st m 272 0 0) 273 2 = nI c := c3
  rcases eb_ix (p := p1) (x := nI c) rfl (by omega) with hp | ⟨k, hk, rfl⟩
  · refine eb_Pk1 h (k := 1) (v := 0) ?_ ?_ (by decide)
    · unfold f_L_fair f_X11_fair
      rw [eb_needOpen1 c4 hp]
      rfl
    · unfold f_X12_fair
      rw [eb_bdR, eb_noCase p1 g0' (by omega), eb_clR, if_neg hp, eb_throwsIf1, eb_clR, if_neg eb_ne10]
  have hp := eb_ixT hk (show c < 2 ^ 31 by omega)
  have hkk : k < eb_k (m 273) := by rw [c5]; exact hk
  by_cases hop : m 273 (77 + 4 * k) = 0
  · obtain ⟨X, eX⟩ : ∃ X, X = eb_chs (m 273) k 0 := ⟨_, rfl⟩
    obtain ⟨Y, eY⟩ : ∃ Y, Y = eb_chs (m 273) k 1 := ⟨_, rfl⟩
    obtain ⟨R, eR⟩ : ∃ R, R = (eb_F (fun i t => eb_F (eb_fs (eb_g8 (m 273)) X Y i) t n) (43046722, -1) n).2 := ⟨_, rfl⟩
    unfold f_L_fair
    refine eb_Lw (fun u m1 => eb_kf m m1 ∧ u = R) ?_ ?_
    · unfold f_X11_fair
      rw [eb_needOpen h hkk, if_pos hop, eb_cx0]
      refine eb_cl (eb_reckonF h) fun r m3 hk => ?_
      have hk : eb_kf m m3 := hk
      have hK := eb_KA_of h e3 hk
      rw [show f_X1_choices 8 (nI k) 0 m3 = _ from eb_chA (s := 0) hk hkk (by decide), eb_clR, show f_X1_choices 8 (nI k) 1 m3 = _ from eb_chA (s := 1) hk hkk (by decide), eb_clR, ← eX, ← eY, show ea_loop (f_X11_fair_s46 X Y) ea_fuel (43046722, -1, 0, m3) = _ from eb_fairA hK hn X Y (43046722, -1), eb_obR, ← eR]
      exact eb_some ⟨rfl, hk, rfl⟩
    · rintro u m1 ⟨hk, hu⟩
      have k273 := eb_k273 (u := u) hk
      unfold f_X12_fair
      rw [eb_bdR, eb_noCase (nI k) (n := c) (by rw [k273]; exact c3) (by omega), eb_clR, if_pos hp, eb_throwsIf0, eb_clR, if_pos rfl, eb_isOpen (by omega), k273, if_pos hop, eb_clR, if_neg eb_ne10]
      unfold f_X12_fair_j32
      rw [eb_throwsIf0, eb_clR, if_pos rfl]
      refine eb_cl (eb_laysAll hn k273 e1 (eb_OK_of h)) fun r m6 hz => ?_
      obtain ⟨z1, hK⟩ := hz
      have z1 : eb_MZ (ea_st (ea_st m1 287 0 u) 272 0 0) m6 := z1
      have hK : eb_KM m6 n (eb_g8 (m 273)) := hK
      have fin := eb_finM hk z1
      have lp := eb_fairM h hn e1 hkk eX eY ((eb_MZ_273 z1).trans k273) hK (43046722, -1)
      rw [← eR] at lp
      have lp : ea_loop (f_X12_fair_s54 (nI k)) ea_fuel (-1, 43046722, 0, m6) = some (R, m6) := lp
      rw [lp, eb_obR]
      exact eb_some ⟨fin.1, fin.2.1.trans hu, fin.2.2⟩
  · refine eb_Pk1 h (k := 2) (v := 0) ?_ ?_ (by decide)
    · unfold f_L_fair f_X11_fair
      rw [eb_needOpen h hkk, if_neg hop]
      rfl
    · unfold f_X12_fair
      rw [eb_bdR, eb_noCase (nI k) g0' (by omega), eb_clR, if_pos hp, eb_throwsIf0, eb_clR, if_pos rfl, eb_isOpen (by omega), show (ea_st m 272 0 0) 273 = m 273 from rfl, if_neg hop, eb_clR, if_pos rfl]
      unfold f_X12_fair_j32
      rw [eb_throwsIf1, eb_clR, if_neg eb_ne10]
end FAIR
