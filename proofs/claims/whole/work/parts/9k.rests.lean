section RESTS
variable {m m1 mm z : ea_M} {w : Nat → Int32} {g : Nat → Nat → Int32} {n i j k : Nat}
noncomputable def eb_yes (p : Prop) : Int32 := haveI := Classical.propDecidable p; if p then 1 else 0
theorem eb_yesT {p : Prop} (h : p) : eb_yes p = 1 := if_pos h
theorem eb_yesF {p : Prop} (h : ¬ p) : eb_yes p = 0 := if_neg h
/-- a loop that asks whether all are so -/
theorem eb_allL {step : Int32 × ea_M → Option ((Int32 × ea_M) ⊕ ((Int32 × ea_M) ⊕ ea_M))} (N : Nat) (P : Nat → Prop) (hN : N < 1000) (hs : ∀ i, i < N → P i → step (nI i, m) = some (.inl (nI (i + 1), m))) (hn : ∀ i, i < N → ¬ P i → step (nI i, m) = some (.inr (.inl (0, m)))) (he : step (nI N, m) = some (.inr (.inr m))) :
    ea_sl (ea_loop step ea_fuel (0, m)) (fun t => some t) (fun x => some (1, x)) = some (eb_yes (∀ i, i < N → P i), m) := by
  have key : eb_W (ea_loop step ea_fuel (0, m)) (fun r => (r = .inr m ∧ ∀ i, i < N → P i) ∨ (r = .inl (0, m) ∧ ¬ ∀ i, i < N → P i)) := by
    refine eb_for N (fun i t => t = (nI i, m) ∧ ∀ k, k < i → P k) ?_ ?_ (by unfold ea_fuel; omega) ⟨rfl, fun k hk => absurd hk (Nat.not_lt_zero _)⟩
    · rintro i t hi ⟨g1, g2⟩
      subst g1
      by_cases q : P i
      · rw [hs i hi q]
        refine eb_some ⟨rfl, fun k hk => ?_⟩
        by_cases q2 : k = i
        · subst q2; exact q
        · exact g2 k (by omega)
      · rw [hn i hi q]
        exact eb_some (Or.inr ⟨rfl, fun z => q (z i hi)⟩)
    · rintro t ⟨g1, g2⟩
      subst g1
      rw [he]
      exact eb_some (Or.inl ⟨rfl, g2⟩)
  obtain ⟨t, e, q⟩ := key
  rw [e]
  rcases q with ⟨rfl, y⟩ | ⟨rfl, y⟩
  · rw [eb_yesT y]; rfl
  · rw [eb_yesF y]; rfl
/-- among the set's, i is the best against j -/
def eb_bst (g : Nat → Nat → Int32) (n : Nat) (s : Int32) (i j : Nat) : Prop := ∀ b, b < n → eb_bit s b → eb_hs g b j ≤ eb_hs g i j
theorem eb_isBestA (hK : eb_KA m n g) (hn : n ≤ 6) (hi : i < n) (hj : j < n) (s : Int32) : f_X11_isBestOf s (nI i) (nI j) m = some (eb_yes (eb_bst g n s i j), m) := by
  unfold f_X11_isBestOf
  rw [eb_hasItA hK hn hi hj, eb_clR]
  refine eb_allL n (fun b => eb_bit s b → eb_hs g b j ≤ eb_hs g i j) (by omega) (fun b hb q => ?_) (fun b hb q => ?_) ?_
  · unfold f_X11_isBestOf_s11 f_X11_isBestOf_j46
    dsimp only
    rw [hK.1, eb_bdR, if_neg (nI_ge hb (by omega)), eb_bdR, nI_1]
    by_cases q2 : eb_bit s b
    · rw [if_neg (fun z => (eb_bit0 _ _).mp z q2), eb_hasItA hK hn hb hj, eb_clR, if_pos (q q2)]
    · rw [if_pos ((eb_bit0 _ _).mpr q2)]
  · have q2 : eb_bit s b := Classical.byContradiction fun y => q fun z => absurd z y
    have q3 : ¬ eb_hs g b j ≤ eb_hs g i j := fun y => q fun _ => y
    unfold f_X11_isBestOf_s11
    dsimp only
    rw [hK.1, eb_bdR, if_neg (nI_ge hb (by omega)), eb_bdR, if_neg (fun z => (eb_bit0 _ _).mp z q2), eb_hasItA hK hn hb hj, eb_clR, if_neg q3]
  · unfold f_X11_isBestOf_s11
    dsimp only
    rw [hK.1, eb_bdR, if_pos (nI_le (Nat.le_refl _) (by omega))]
theorem eb_isBestM (hK : eb_KM m n g) (hn : n ≤ 6) (hi : i < n) (hj : j < n) (s : Int32) : f_X12_isBestOf (nI i) (nI j) s m = some (eb_yes (eb_bst g n s i j), m) := by
  unfold f_X12_isBestOf
  refine eb_allL n (fun b => eb_bit s b → eb_hs g b j ≤ eb_hs g i j) (by omega) (fun b hb q => ?_) (fun b hb q => ?_) ?_
  · unfold f_X12_isBestOf_s3 f_X12_isBestOf_j39
    dsimp only
    rw [eb_birds, eb_clR, hK.1, if_neg (nI_ge hb (by omega)), nI_1]
    by_cases q2 : eb_bit s b
    · rw [eb_hasT q2, eb_clR, if_neg eb_ne10, eb_firstHasM hK hn hb hj, eb_clR, eb_firstHasM hK hn hi hj, eb_clR, if_pos (q q2)]
    · rw [eb_hasF q2, eb_clR, if_pos rfl]
  · have q2 : eb_bit s b := Classical.byContradiction fun y => q fun z => absurd z y
    have q3 : ¬ eb_hs g b j ≤ eb_hs g i j := fun y => q fun _ => y
    unfold f_X12_isBestOf_s3
    dsimp only
    rw [eb_birds, eb_clR, hK.1, if_neg (nI_ge hb (by omega)), eb_hasT q2, eb_clR, if_neg eb_ne10, eb_firstHasM hK hn hb hj, eb_clR, eb_firstHasM hK hn hi hj, eb_clR, if_neg q3]
  · unfold f_X12_isBestOf_s3
    dsimp only
    rw [eb_birds, eb_clR, hK.1, if_pos (nI_le (Nat.le_refl _) (by omega))]
/-! count and first, forward and backward -/
noncomputable def eb_rf (P : Nat → Prop) (C : Nat → Int32) (q : Nat) (s : Int32 × Int32) : Int32 × Int32 := haveI := Classical.propDecidable (P q); if P q then (s.1 + 1, if s.1 = 0 then C q else s.2) else s
noncomputable def eb_rb (N : Nat) (P : Nat → Prop) (C : Nat → Int32) (d : Nat) (s : Int32 × Int32) : Int32 × Int32 := haveI := Classical.propDecidable (P (N - 1 - d)); if P (N - 1 - d) then (s.1 + 1, C (N - 1 - d)) else s
theorem eb_rf_c (P : Nat → Prop) (C : Nat → Int32) : ∀ q, ∃ x, x ≤ q ∧ (eb_F (eb_rf P C) (0, -1) q).1 = nI x ∧ (x = 0 → (eb_F (eb_rf P C) (0, -1) q).2 = -1)
  | 0 => ⟨0, Nat.le_refl _, rfl, fun _ => rfl⟩
  | q + 1 => by
    obtain ⟨x, h1, h2, h3⟩ := eb_rf_c P C q
    rw [eb_F_s]
    obtain ⟨s, es⟩ : ∃ s, s = eb_F (eb_rf P C) (0, -1) q := ⟨_, rfl⟩
    rw [← es] at h2 h3 ⊢
    unfold eb_rf
    by_cases y : P q
    · rw [if_pos y]
      exact ⟨x + 1, by omega, by show s.1 + 1 = _; rw [h2, nI_1], fun z => absurd z (by omega)⟩
    · rw [if_neg y]
      exact ⟨x, by omega, h2, h3⟩
theorem eb_rfb (N : Nat) (hN : N < 1000) (P : Nat → Prop) (C : Nat → Int32) : eb_F (eb_rf P C) (0, -1) N = eb_F (eb_rb N P C) (0, -1) N := by
  obtain ⟨K, eK⟩ : ∃ K, K = eb_F (eb_rf P C) (0, -1) := ⟨_, rfl⟩
  obtain ⟨R, eR⟩ : ∃ R, R = eb_F (eb_rb N P C) (0, -1) := ⟨_, rfl⟩
  have kc := fun q => eb_rf_c P C q
  have K0 : K 0 = (0, -1) := by rw [eK]; rfl
  have R0 : R 0 = (0, -1) := by rw [eR]; rfl
  have kx : ∀ q, K (q + 1) = eb_rf P C q (K q) := fun q => by rw [eK, eb_F_s]
  have rx : ∀ q, R (q + 1) = eb_rb N P C q (R q) := fun q => by rw [eR, eb_F_s]
  rw [← eK] at kc
  rw [← eK, ← eR]
  have cmb : ∀ q, q ≤ N → ((K q).1 + (R (N - q)).1, if (K q).1 = 0 then (R (N - q)).2 else (K q).2) = R N := by
    intro q
    induction q with
    | zero =>
      intro _
      rw [K0, Nat.sub_zero]
      show ((0 : Int32) + (R N).1, if (0 : Int32) = 0 then (R N).2 else -1) = R N
      rw [if_pos rfl, Int32.zero_add]
    | succ q ih =>
      intro hq
      rw [← ih (by omega), kx q, show N - q = N - (q + 1) + 1 by omega, rx (N - (q + 1))]
      obtain ⟨x, h1, h2, h3⟩ := kc q
      unfold eb_rf eb_rb
      rw [show N - 1 - (N - (q + 1)) = q by omega]
      by_cases y : P q
      · rw [if_pos y, if_pos y]
        dsimp only
        have nz : ¬ (K q).1 + 1 = 0 := by
          rw [h2, nI_1]
          exact nI_ne0 (by omega) (by omega)
        rw [if_neg nz, Int32.add_assoc, Int32.add_comm 1]
      · rw [if_neg y, if_neg y]
  have fin := cmb N (Nat.le_refl _)
  rw [Nat.sub_self, R0] at fin
  rw [← fin]
  obtain ⟨x, h1, h2, h3⟩ := kc N
  show K N = ((K N).1 + 0, if (K N).1 = 0 then -1 else (K N).2)
  rw [Int32.add_zero]
  by_cases y : (K N).1 = 0
  · rw [if_pos y]
    have x0 : x = 0 := by
      by_cases t : x = 0
      · exact t
      · rw [h2] at y
        exact absurd y (nI_ne0 (by omega) (by omega))
    rw [← h3 x0]
  · rw [if_neg y]
/-- from i and j neither would turn -/
def eb_nt (g : Nat → Nat → Int32) (n : Nat) (X Y : Int32) (q : Nat) : Prop := eb_bit X (q / 6) ∧ eb_bit Y (q % 6) ∧ eb_bst g n X (q / 6) (q % 6) ∧ eb_bst g n Y (q % 6) (q / 6)
def eb_cd (q : Nat) : Int32 := nI (10 * (q / 6) + q % 6)
theorem eb_restsA (hK : eb_KA m n g) (hn : n ≤ 6) (p : Int32) {X Y : Int32} (hX : ∀ b, b < 6 → eb_bit X b → b < n) (hY : ∀ b, b < 6 → eb_bit Y b → b < n) : ea_loop (f_X11_rests_s45 p X Y) ea_fuel (0, -1, 0, m) = some ((eb_F (eb_rf (eb_nt g n X Y) eb_cd) (0, -1) 36).1, (eb_F (eb_rf (eb_nt g n X Y) eb_cd) (0, -1) 36).2, m) := by
  have ext : ∀ i d, n ≤ 6 → (∀ q t, i ≤ q → q < i + d → eb_rf (eb_nt g n X Y) eb_cd q t = t) → eb_F (eb_rf (eb_nt g n X Y) eb_cd) (0, -1) (i + d) = eb_F (eb_rf (eb_nt g n X Y) eb_cd) (0, -1) i := fun i d _ hh => eb_F_ext d hh
  obtain ⟨F, eF⟩ : ∃ F, F = eb_F (eb_rf (eb_nt g n X Y) eb_cd) (0, -1) := ⟨_, rfl⟩
  have F0 : F 0 = (0, -1) := by rw [eF]; rfl
  have nx : ∀ q, F (q + 1) = eb_rf (eb_nt g n X Y) eb_cd q (F q) := fun q => by rw [eF, eb_F_s]
  rw [← eF] at ext ⊢
  have e36 : F 36 = F (6 * n) := by
    have := ext (6 * n) (36 - 6 * n) hn (fun q t h1 h2 => by
      unfold eb_rf
      rw [if_neg (fun z => absurd (hX (q / 6) (by omega) z.1) (by omega))])
    rw [show 6 * n + (36 - 6 * n) = 36 by omega] at this
    exact this
  rw [e36]
  refine eb_loopF n (fun i => ((F (6 * i)).1, (F (6 * i)).2, nI i, m)) ((F (6 * n)).1, (F (6 * n)).2, m) (by rw [Nat.mul_zero, F0]; rfl) (fun i hi => ?_) ?_ (by unfold ea_fuel; omega)
  · have e6 : F (6 * (i + 1)) = F (6 * i + n) := by
      have := ext (6 * i + n) (6 - n) hn (fun q t h1 h2 => by
        unfold eb_rf
        rw [if_neg (fun z => absurd (hY (q % 6) (by omega) z.2.1) (by omega))])
      rw [show 6 * i + n + (6 - n) = 6 * (i + 1) by omega] at this
      exact this
    unfold f_X11_rests_s45
    dsimp only
    rw [hK.1, eb_bdR, if_neg (nI_ge hi (by omega)), e6, nI_1]
    refine eb_loopB n (fun j => ((F (6 * i + j)).1, (F (6 * i + j)).2, nI j, m)) ((F (6 * i + n)).1, (F (6 * i + n)).2, m) rfl (fun j hj => ?_) ?_ (by unfold ea_fuel; omega) rfl
    · have nxq : F (6 * i + (j + 1)) = eb_rf (eb_nt g n X Y) eb_cd (6 * i + j) (F (6 * i + j)) := nx (6 * i + j)
      obtain ⟨s, es⟩ : ∃ s, s = F (6 * i + j) := ⟨_, rfl⟩
      unfold f_X11_rests_s60 f_X11_rests_j95 f_X11_rests_j96 f_X11_rests_j146 f_X11_rests_j151
      dsimp only
      rw [hK.1, eb_bdR, if_neg (nI_ge hj (by omega)), eb_bdR, nxq, ← es, nI_1]
      have keep : ¬ eb_nt g n X Y (6 * i + j) → some (Sum.inl (s.1, s.2, nI (j + 1), m)) = some (Sum.inl (β := Int32 × Int32 × ea_M) ((eb_rf (eb_nt g n X Y) eb_cd (6 * i + j) s).1, (eb_rf (eb_nt g n X Y) eb_cd (6 * i + j) s).2, nI (j + 1), m)) := fun z => by
        unfold eb_rf
        rw [if_neg z]
      have d1 : (6 * i + j) / 6 = i := by omega
      have d2 : (6 * i + j) % 6 = j := by omega
      have take : eb_nt g n X Y (6 * i + j) → eb_rf (eb_nt g n X Y) eb_cd (6 * i + j) s = (s.1 + 1, if s.1 = 0 then nI (10 * i + j) else s.2) := fun z => by
        unfold eb_rf eb_cd
        rw [if_pos z, d1, d2]
      have ntI : eb_nt g n X Y (6 * i + j) ↔ eb_bit X i ∧ eb_bit Y j ∧ eb_bst g n X i j ∧ eb_bst g n Y j i := by
        unfold eb_nt
        rw [d1, d2]
      by_cases q1 : eb_bit X i
      · rw [if_neg (fun z => (eb_bit0 _ _).mp z q1), eb_bdR]
        by_cases q2 : eb_bit Y j
        · rw [if_neg (fun z => (eb_bit0 _ _).mp z q2), if_neg eb_ne10, eb_isBestA hK hn hi hj, eb_clR]
          by_cases q3 : eb_bst g n X i j
          · rw [eb_yesT q3, if_neg eb_ne10, eb_isBestA hK hn hj hi, eb_clR]
            by_cases q4 : eb_bst g n Y j i
            · rw [eb_yesT q4, if_neg eb_ne10, take (ntI.mpr ⟨q1, q2, q3, q4⟩)]
              dsimp only
              by_cases q5 : s.1 = 0
              · rw [if_pos q5, if_pos q5, eb_bdR, eb_code]
              · rw [if_neg q5, if_neg q5]
            · rw [eb_yesF q4, if_pos rfl]
              exact keep fun z => q4 (ntI.mp z).2.2.2
          · rw [eb_yesF q3, if_pos rfl]
            exact keep fun z => q3 (ntI.mp z).2.2.1
        · rw [if_pos ((eb_bit0 _ _).mpr q2), if_pos rfl]
          exact keep fun z => q2 (ntI.mp z).2.1
      · rw [if_pos ((eb_bit0 _ _).mpr q1), if_pos rfl]
        exact keep fun z => q1 (ntI.mp z).1
    · unfold f_X11_rests_s60
      dsimp only
      rw [hK.1, eb_bdR, if_pos (nI_le (Nat.le_refl _) (by omega))]
  · unfold f_X11_rests_s45
    dsimp only
    rw [hK.1, eb_bdR, if_pos (nI_le (Nat.le_refl _) (by omega))]
theorem eb_restsM (hK : eb_KM m n g) (hn : n ≤ 6) (p : Int32) {X Y : Int32} (hX : ∀ b, b < 6 → eb_bit X b → b < n) (hY : ∀ b, b < 6 → eb_bit Y b → b < n) : ea_loop (f_X12_rests_s70 p X Y) ea_fuel (0, -1, 35, m) = some ((eb_F (eb_rb 36 (eb_nt g n X Y) eb_cd) (0, -1) 36).1, (eb_F (eb_rb 36 (eb_nt g n X Y) eb_cd) (0, -1) 36).2, m) := by
  obtain ⟨F, eF⟩ : ∃ F, F = eb_F (eb_rb 36 (eb_nt g n X Y) eb_cd) (0, -1) := ⟨_, rfl⟩
  have F0 : F 0 = (0, -1) := by rw [eF]; rfl
  have nx : ∀ q, F (q + 1) = eb_rb 36 (eb_nt g n X Y) eb_cd q (F q) := fun q => by rw [eF, eb_F_s]
  rw [← eF]
  refine eb_loopF 36 (fun d => ((F d).1, (F d).2, 35 - nI d, m)) ((F 36).1, (F 36).2, m) (by rw [F0]; rfl) (fun d hd => ?_) ?_ (by decide)
  · have eq : (35 : Int32) - nI d = nI (35 - d) := pk_sub (a := 35) (by omega)
    have eq1 : (35 : Int32) - nI (d + 1) = nI (35 - d) + -1 := by
      rw [← nI_1, ← eb_subsub, eq, Int32.sub_eq_add_neg]
    have nxq := nx d
    obtain ⟨s, es⟩ : ∃ s, s = F d := ⟨_, rfl⟩
    rw [← es] at nxq
    obtain ⟨q, hq⟩ : ∃ q, q = 35 - d := ⟨_, rfl⟩
    rw [← hq] at eq eq1
    have hq35 : q ≤ 35 := by omega
    have e36 : 36 - 1 - d = q := by omega
    unfold f_X12_rests_s70 f_X12_rests_j149
    dsimp only
    rw [eq, eq1, nxq, ← es, if_neg (show ¬ nI q < 0 from nI_nlt (b := 0) (Nat.zero_le _) (by omega)), eb_bdR, eb_bdR, show nI q / 6 = nI (q / 6) from pk_div (d := 6) (by omega) (by decide) (by decide), show nI q - nI (q / 6) * 6 = nI (q % 6) from by rw [← pk_rem (a := q) (d := 6) (by omega) (by decide) (by decide), pk_div (by omega) (by decide) (by decide)]; rfl]
    have keep : ¬ eb_nt g n X Y q → some (Sum.inl (s.1, s.2, nI q + -1, m)) = some (Sum.inl (β := Int32 × Int32 × ea_M) ((eb_rb 36 (eb_nt g n X Y) eb_cd d s).1, (eb_rb 36 (eb_nt g n X Y) eb_cd d s).2, nI q + -1, m)) := fun z => by
      unfold eb_rb
      rw [e36, if_neg z]
    have take : eb_nt g n X Y q → eb_rb 36 (eb_nt g n X Y) eb_cd d s = (s.1 + 1, nI (10 * (q / 6) + q % 6)) := fun z => by
      unfold eb_rb eb_cd
      rw [e36, if_pos z]
    by_cases q1 : eb_bit X (q / 6)
    · have hi := hX _ (by omega) q1
      rw [eb_hasT q1, eb_clR, if_neg eb_ne10]
      by_cases q2 : eb_bit Y (q % 6)
      · have hj := hY _ (by omega) q2
        rw [eb_hasT q2, eb_clR, if_neg eb_ne10, eb_isBestM hK hn hi hj, eb_clR]
        by_cases q3 : eb_bst g n X (q / 6) (q % 6)
        · rw [eb_yesT q3, if_neg eb_ne10, eb_isBestM hK hn hj hi, eb_clR]
          by_cases q4 : eb_bst g n Y (q % 6) (q / 6)
          · rw [eb_yesT q4, if_neg eb_ne10, take ⟨q1, q2, q3, q4⟩, eb_bdR, eb_code]
          · rw [eb_yesF q4, if_pos rfl]
            exact keep fun z => q4 z.2.2.2
        · rw [eb_yesF q3, if_pos rfl]
          exact keep fun z => q3 z.2.2.1
      · rw [eb_hasF q2, eb_clR, if_pos rfl]
        exact keep fun z => q2 z.2.1
    · rw [eb_hasF q1, eb_clR, if_pos rfl]
      exact keep fun z => q1 z.1
  · unfold f_X12_rests_s70
    dsimp only
    rw [if_pos (show (35 : Int32) - nI 36 < 0 by decide)]
theorem eb_p_rests (p1 p2 : Int32) (_ : eb_bo p2) (h : eb_I m) : eb_P eb_I (f_L_rests p1 p2 m) (f_X12_rests p1 p2) := by
  obtain ⟨n, hn, e1, e2, e3⟩ := eb_IB h
  obtain ⟨c, hc, c3, c4, c5⟩ := eb_IK h
  have g0' : (ea_st m 272 0 0) 273 2 = nI c := c3
  rcases eb_ix (p := p1) (x := nI c) rfl (by omega) with hp | ⟨k, hk, rfl⟩
  · refine eb_Pk1 h (k := 1) (v := 0) ?_ ?_ (by decide)
    · unfold f_L_rests f_X11_rests
      rw [eb_needOpen1 c4 hp]
      rfl
    · unfold f_X12_rests
      rw [eb_bdR, eb_noCase p1 g0' (by omega), eb_clR, if_neg hp, eb_throwsIf1, eb_clR, if_neg eb_ne10]
  have hp := eb_ixT hk (show c < 2 ^ 31 by omega)
  have hkk : k < eb_k (m 273) := by rw [c5]; exact hk
  by_cases hop : m 273 (77 + 4 * k) = 0
  · have hX : ∀ b, b < 6 → eb_bit (eb_chs (m 273) k 0) b → b < n := fun b hb hh => by rw [← e3]; exact (eb_chs_bit (by rw [e3]; exact hn) hb hh).1
    have hY : ∀ b, b < 6 → eb_bit (eb_chs (m 273) k 1) b → b < n := fun b hb hh => by rw [← e3]; exact (eb_chs_bit (by rw [e3]; exact hn) hb hh).1
    obtain ⟨X, eX⟩ : ∃ X, X = eb_chs (m 273) k 0 := ⟨_, rfl⟩
    obtain ⟨Y, eY⟩ : ∃ Y, Y = eb_chs (m 273) k 1 := ⟨_, rfl⟩
    rw [← eX] at hX
    rw [← eY] at hY
    have fb := eb_rfb 36 (by decide) (eb_nt (eb_g8 (m 273)) n X Y) eb_cd
    have lA := fun m3 hK => eb_restsA (m := m3) (g := eb_g8 (m 273)) hK hn p2 hX hY
    have lM := fun m3 hK => eb_restsM (m := m3) (g := eb_g8 (m 273)) hK hn p2 hX hY
    rw [← fb] at lM
    obtain ⟨R, eR⟩ : ∃ R, R = eb_F (eb_rf (eb_nt (eb_g8 (m 273)) n X Y) eb_cd) (0, -1) 36 := ⟨_, rfl⟩
    rw [← eR] at lA lM
    unfold f_L_rests
    refine eb_Lw (fun u m1 => eb_kf m m1 ∧ u = if p2 = 0 then R.1 else R.2) ?_ ?_
    · unfold f_X11_rests
      rw [eb_needOpen h hkk, if_pos hop, eb_cx0]
      refine eb_cl (eb_reckonF h) fun r m3 hk => ?_
      have hk : eb_kf m m3 := hk
      have hK := eb_KA_of h e3 hk
      rw [show f_X1_choices 8 (nI k) 0 m3 = _ from eb_chA (s := 0) hk hkk (by decide), eb_clR, show f_X1_choices 8 (nI k) 1 m3 = _ from eb_chA (s := 1) hk hkk (by decide), eb_clR, ← eX, ← eY, lA m3 hK, eb_obR]
      by_cases q : p2 = 0
      · rw [if_pos q, if_pos q]
        exact eb_some ⟨rfl, hk, rfl⟩
      · rw [if_neg q, if_neg q]
        exact eb_some ⟨rfl, hk, rfl⟩
    · rintro u m1 ⟨hk, hu⟩
      have k273 := eb_k273 (u := u) hk
      unfold f_X12_rests
      rw [eb_bdR, eb_noCase (nI k) (n := c) (by rw [k273]; exact c3) (by omega), eb_clR, if_pos hp, eb_throwsIf0, eb_clR, if_pos rfl, eb_isOpen (by omega), k273, if_pos hop, eb_clR, if_neg eb_ne10]
      unfold f_X12_rests_j32
      rw [eb_throwsIf0, eb_clR, if_pos rfl]
      refine eb_cl (eb_laysAll hn k273 e1 (eb_OK_of h)) fun r m6 hz => ?_
      obtain ⟨z1, hK⟩ := hz
      have z1 : eb_MZ (ea_st (ea_st m1 287 0 u) 272 0 0) m6 := z1
      have hK : eb_KM m6 n (eb_g8 (m 273)) := hK
      have fin := eb_finM hk z1
      have l273 := (eb_MZ_273 z1).trans k273
      rw [show f_X12_choices (nI k) 0 m6 = _ from eb_chM (s := 0) h hn e1 hkk (by decide) l273, eb_clR, show f_X12_choices (nI k) 1 m6 = _ from eb_chM (s := 1) h hn e1 hkk (by decide) l273, eb_clR, ← eX, ← eY, lM m6 hK, eb_obR]
      by_cases q : p2 = 0
      · rw [if_pos q] at hu ⊢
        exact eb_some ⟨fin.1, fin.2.1.trans hu, fin.2.2⟩
      · rw [if_neg q] at hu ⊢
        exact eb_some ⟨fin.1, fin.2.1.trans hu, fin.2.2⟩
  · refine eb_Pk1 h (k := 2) (v := 0) ?_ ?_ (by decide)
    · unfold f_L_rests f_X11_rests
      rw [eb_needOpen h hkk, if_neg hop]
      rfl
    · unfold f_X12_rests
      rw [eb_bdR, eb_noCase (nI k) g0' (by omega), eb_clR, if_pos hp, eb_throwsIf0, eb_clR, if_pos rfl, eb_isOpen (by omega), show (ea_st m 272 0 0) 273 = m 273 from rfl, if_neg hop, eb_clR, if_pos rfl]
      unfold f_X12_rests_j32
      rw [eb_throwsIf1, eb_clR, if_neg eb_ne10]
end RESTS
