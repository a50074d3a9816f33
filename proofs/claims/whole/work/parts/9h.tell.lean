section TELL
variable {m m1 mm z : ea_M} {w : Nat → Int32} {g : Nat → Nat → Int32} {n i j k : Nat}
theorem eb_F_s {σ : Type} (f : Nat → σ → σ) (s : σ) (n : Nat) : eb_F f s (n + 1) = f n (eb_F f s n) := rfl
noncomputable def eb_te (w : Nat → Int32) (k c i : Nat) (a : Int32) : Int32 := if eb_lan w (nI i) (16 * k + c) ≤ 0 then a else a ||| (1 <<< (nI i &&& 31))
theorem eb_p_tell (p1 p2 : Int32) (h : eb_I m) : eb_P eb_I (f_L_tell p1 p2 m) (f_X12_tell p1 p2) := by
  obtain ⟨n, hn, e1, e2, e3⟩ := eb_IB h
  rcases eb_ix (p := p1) (x := nI 16) rfl (by decide) with hc | ⟨c, hc, rfl⟩
  · refine eb_Pk1 h (k := 1) (v := 0) ?_ ?_ (by decide)
    · unfold f_L_tell f_X11_tell
      rw [eb_needColumn, if_neg hc]
      rfl
    · unfold f_X12_tell
      rw [eb_bdR, eb_noColumn, eb_clR, if_neg hc, eb_throwsIf1, eb_clR, if_neg eb_ne10]
  have hc' := eb_ixT hc (show 16 < 2 ^ 31 by decide)
  by_cases hq : 1 ≤ p2 ∧ p2 ≤ 8
  · obtain ⟨k, hk8, ek⟩ := eb_ix18 hq
    obtain ⟨F, eF⟩ : ∃ F, F = eb_F (eb_te (m 273) k c) 0 := ⟨_, rfl⟩
    have nx : ∀ i, F (i + 1) = eb_te (m 273) k c i (F i) := fun i => by rw [eF, eb_F_s]
    have F0 : F 0 = 0 := by rw [eF]; rfl
    unfold f_L_tell
    refine eb_Lw (fun u m1 => eb_kf m m1 ∧ u = F n) ?_ ?_
    · unfold f_X11_tell
      rw [eb_needColumn, if_pos hc', eb_cx0, eb_needWithin, if_pos hq, eb_cx0]
      refine eb_cl (eb_reckonF h) fun r m3 hk => ?_
      have hk : eb_kf m m3 := hk
      have hK := eb_KA_of h e3 hk
      refine eb_of (t := (0, F n, m3)) (eb_loopB n (fun i => (F i, nI i, m3)) (F n, m3) (by rw [F0]; rfl) (fun i hi => ?_) ?_ (by unfold ea_fuel; omega) rfl) ⟨rfl, hk, rfl⟩
      · obtain ⟨f1, f2, f3, f4⟩ := hk.2.2.1 i (by rw [e3]; exact hi)
        unfold f_X11_tell_s22 f_X11_tell_j56
        dsimp only
        rw [hK.1, eb_bdR, if_neg (nI_ge hi (by omega)), eb_gN (by omega) (by decide), eb_bdR, nI_clamp (by omega), eb_rFates i (by omega), ek, eb_landedIn (m := m3) (a := 254 + 3 * i) hk8 hc f3, eb_clR, nx i, nI_1]
        unfold eb_te
        by_cases q : eb_lan (m 273) (nI i) (16 * k + c) ≤ 0
        · rw [if_pos q, if_pos q]
        · rw [if_neg q, if_neg q, eb_bdR]
      · unfold f_X11_tell_s22
        dsimp only
        rw [hK.1, eb_bdR, if_pos (nI_le (Nat.le_refl _) (by omega))]
    · rintro u m1 ⟨hk, hu⟩
      have k273 := eb_k273 (u := u) hk
      unfold f_X12_tell
      rw [eb_bdR, eb_noColumn, eb_clR, if_pos hc', eb_throwsIf0, eb_clR, if_pos rfl, eb_inW, if_pos hq, eb_clR, if_neg eb_ne10]
      unfold f_X12_tell_j33
      rw [eb_throwsIf0, eb_clR, if_pos rfl]
      refine eb_bind (eb_for (Q := fun z => z.1 = F n ∧ eb_MZ (ea_st (ea_st m1 287 0 u) 272 0 0) z.2) n (fun i t => t.1 = F i ∧ t.2.1 = nI i ∧ eb_MZ (ea_st (ea_st m1 287 0 u) 272 0 0) t.2.2) ?_ ?_ (by unfold ea_fuel; omega) ⟨F0.symm, rfl, eb_MZ_refl _⟩) fun x hx => ?_
      · rintro i ⟨t1, t2, m2⟩ hi ⟨g1, g2, g3⟩
        have g1 : t1 = F i := g1
        have g2 : t2 = nI i := g2
        subst g1 g2
        have g3 : eb_MZ (ea_st (ea_st m1 287 0 u) 272 0 0) m2 := g3
        have l273 : m2 273 = m 273 := (eb_MZ_273 g3).trans k273
        unfold f_X12_tell_s47 f_X12_tell_j80
        dsimp only
        rw [eb_birds, eb_clR, l273, e1, if_neg (nI_ge hi (by omega))]
        refine eb_cl (eb_laysI h hn hi l273) fun r m4 hz => ?_
        obtain ⟨z1, z2⟩ := hz
        have z1 : eb_MS m2 m4 := z1
        have z2 : ∀ j, j < 128 → m4 283 (16 + j) = eb_lan (m 273) (nI i) j := z2.2.2
        rw [ek, eb_landedAtM hk8 hc z2, eb_clR]
        by_cases q : eb_lan (m 273) (nI i) (16 * k + c) ≤ 0
        · rw [if_pos q, eb_bdR, Int32.or_zero]
          refine eb_some ⟨?_, nI_1 i, eb_MZ_trans g3 (eb_MZ_MS z1)⟩
          show F i = F (i + 1)
          rw [nx i]
          unfold eb_te
          rw [if_pos q]
        · rw [if_neg q, eb_bdR]
          refine eb_some ⟨?_, nI_1 i, eb_MZ_trans g3 (eb_MZ_MS z1)⟩
          show _ = F (i + 1)
          rw [nx i]
          unfold eb_te
          rw [if_neg q]
      · rintro ⟨t1, t2, m2⟩ ⟨g1, g2, g3⟩
        have g2 : t2 = nI n := g2
        subst g2
        have g3 : eb_MZ (ea_st (ea_st m1 287 0 u) 272 0 0) m2 := g3
        have l273 : m2 273 = m 273 := (eb_MZ_273 g3).trans k273
        unfold f_X12_tell_s47
        dsimp only
        rw [eb_birds, eb_clR, l273, e1, if_pos (nI_le (Nat.le_refl _) (by omega))]
        exact eb_some ⟨g1, g3⟩
      · have fin := eb_finM hk hx.2
        exact eb_some ⟨fin.1, fin.2.1.trans (hu.trans hx.1.symm), fin.2.2⟩
  · refine eb_Pk1 h (k := 2) (v := 0) ?_ ?_ (by decide)
    · unfold f_L_tell f_X11_tell
      rw [eb_needColumn, if_pos hc', eb_cx0, eb_needWithin, if_neg hq]
      rfl
    · unfold f_X12_tell
      rw [eb_bdR, eb_noColumn, eb_clR, if_pos hc', eb_throwsIf0, eb_clR, if_pos rfl, eb_inW, if_neg hq, eb_clR, if_pos rfl]
      unfold f_X12_tell_j33
      rw [eb_throwsIf1, eb_clR, if_neg eb_ne10]
/-! alike -/
def eb_eq (f f' : Nat → Int32) : Nat → Int32
  | 0 => 1
  | k + 1 => if eb_eq f f' k = 0 then 0 else if f k = f' k then 1 else 0
theorem eb_eq01 (f f' : Nat → Int32) : ∀ k, eb_eq f f' k = 0 ∨ eb_eq f f' k = 1
  | 0 => Or.inr rfl
  | k + 1 => by
    unfold eb_eq
    by_cases q : eb_eq f f' k = 0
    · rw [if_pos q]; exact Or.inl rfl
    · rw [if_neg q]
      by_cases q2 : f k = f' k
      · rw [if_pos q2]; exact Or.inr rfl
      · rw [if_neg q2]; exact Or.inl rfl
theorem eb_eq_c (f f' : Nat → Int32) : ∀ k, eb_eq f f' k = eb_eq f' f k
  | 0 => rfl
  | k + 1 => by
    unfold eb_eq
    rw [eb_eq_c f f' k]
    by_cases q2 : f k = f' k
    · rw [if_pos q2, if_pos q2.symm]
    · rw [if_neg q2, if_neg (show ¬ f' k = f k from fun z => q2 z.symm)]
theorem eb_eq_0 {f f' : Nat → Int32} {k : Nat} (h : eb_eq f f' k = 0) : ∀ d, eb_eq f f' (k + d) = 0
  | 0 => h
  | d + 1 => by
    show (if eb_eq f f' (k + d) = 0 then (0 : Int32) else if f (k + d) = f' (k + d) then 1 else 0) = 0
    rw [if_pos (eb_eq_0 h d)]
theorem eb_asGoodA {a a' : Nat} {f f' : Nat → Int32} (h : ∀ k, k < 8 → m (a + 2) (k + 1) = f k) (h' : ∀ k, k < 8 → m (a' + 2) (k + 1) = f' k) : f_X4_isAsGoodAs a a' m = some (eb_eq f f' 8, m) := by
  unfold f_X4_isAsGoodAs
  have key : eb_W (ea_loop (f_X4_isAsGoodAs_s2 a a') ea_fuel (1, m)) (fun r => r = if eb_eq f f' 8 = 0 then .inl (0, m) else .inr m) := by
    refine eb_for 8 (fun i t => t = (nI (i + 1), m) ∧ eb_eq f f' i = 1) ?_ ?_ (by decide) ⟨rfl, rfl⟩
    · rintro i t hi ⟨g1, g2⟩
      subst g1
      unfold f_X4_isAsGoodAs_s2
      dsimp only
      rw [if_neg (show ¬ (8 : Int32) < nI (i + 1) from nI_nlt (a := 8) (by omega) (by decide)), eb_gN (by omega) (by decide), eb_bdR, nI_clamp (by omega), h i hi, eb_gN (by omega) (by decide), eb_bdR, h' i hi]
      by_cases q : f i = f' i
      · rw [if_pos q, nI_1]
        refine eb_some ⟨rfl, ?_⟩
        show (if eb_eq f f' i = 0 then (0 : Int32) else if f i = f' i then 1 else 0) = 1
        rw [g2, if_neg eb_ne10, if_pos q]
      · rw [if_neg q]
        refine eb_some ?_
        have z : eb_eq f f' (i + 1) = 0 := by
          show (if eb_eq f f' i = 0 then (0 : Int32) else if f i = f' i then 1 else 0) = 0
          rw [g2, if_neg eb_ne10, if_neg q]
        have z8 := eb_eq_0 z (8 - (i + 1))
        rw [show i + 1 + (8 - (i + 1)) = 8 by omega] at z8
        show (_ : (Int32 × ea_M) ⊕ ea_M) = _
        rw [if_pos z8]
    · rintro t ⟨g1, g2⟩
      subst g1
      unfold f_X4_isAsGoodAs_s2
      rw [if_pos (show (8 : Int32) < nI (8 + 1) by decide)]
      refine eb_some ?_
      show (_ : (Int32 × ea_M) ⊕ ea_M) = _
      rw [g2, if_neg eb_ne10]
  obtain ⟨t, e, q⟩ := key
  rw [e, q]
  rcases eb_eq01 f f' 8 with y | y
  · rw [y, if_pos rfl]; rfl
  · rw [y, if_neg eb_ne10]; rfl
theorem eb_S_plus (f f' : Nat → Int32) : ∀ n, eb_S (fun i => f i + f' i) n = eb_S f n + eb_S f' n
  | 0 => by show (0 : Int32) = 0 + 0; decide
  | n + 1 => by
    show eb_S (fun i => f i + f' i) n + (f n + f' n) = (eb_S f n + f n) + (eb_S f' n + f' n)
    rw [eb_S_plus f f' n, Int32.add_assoc, Int32.add_assoc, ← Int32.add_assoc (eb_S f' n), Int32.add_comm (eb_S f' n) (f n), Int32.add_assoc]
/-- the pairs, by the smaller one and by the larger one -/
theorem eb_pairs (E : Nat → Nat → Int32) (hE : ∀ i j, E i j = E j i) : ∀ n, eb_S (fun i => eb_S (fun d => E i (i + 1 + d)) (n - (i + 1))) n = eb_S (fun i => eb_S (fun j => E i j) i) n
  | 0 => rfl
  | n + 1 => by
    show eb_S (fun i => eb_S (fun d => E i (i + 1 + d)) (n + 1 - (i + 1))) n + eb_S (fun d => E n (n + 1 + d)) (n + 1 - (n + 1)) = eb_S (fun i => eb_S (fun j => E i j) i) n + eb_S (fun j => E n j) n
    rw [Nat.sub_self, ← eb_pairs E hE n]
    show _ + 0 = _
    rw [Int32.add_zero, eb_S_cg (g := fun i => eb_S (fun d => E i (i + 1 + d)) (n - (i + 1)) + E n i), eb_S_plus]
    intro i hi
    rw [show n + 1 - (i + 1) = n - (i + 1) + 1 by omega]
    show eb_S _ (n - (i + 1)) + E i (i + 1 + (n - (i + 1))) = _
    rw [show i + 1 + (n - (i + 1)) = n by omega, hE i n]
theorem eb_alikeA (hK : eb_KA m n g) (hn : n ≤ 6) : ea_loop f_X11_alike_s8 ea_fuel (0, 0, m) = some (eb_S (fun i => eb_S (fun d => eb_eq (g i) (g (i + 1 + d)) 8) (n - (i + 1))) n, m) := by
  obtain ⟨E, eE⟩ : ∃ E : Nat → Nat → Int32, E = fun i j => eb_eq (g i) (g j) 8 := ⟨_, rfl⟩
  have E1 : ∀ i j, eb_eq (g i) (g j) 8 = E i j := fun i j => by rw [eE]
  have E01 : ∀ i j, E i j = 0 ∨ E i j = 1 := fun i j => by rw [← E1]; exact eb_eq01 _ _ _
  have e : (fun i => eb_S (fun d => eb_eq (g i) (g (i + 1 + d)) 8) (n - (i + 1))) = fun i => eb_S (fun d => E i (i + 1 + d)) (n - (i + 1)) := by
    funext i
    exact eb_S_cg fun d _ => E1 _ _
  rw [e]
  obtain ⟨A, eA⟩ : ∃ A : Nat → Int32, A = fun i => eb_S (fun d => E i (i + 1 + d)) (n - (i + 1)) := ⟨_, rfl⟩
  have A1 : ∀ i, eb_S (fun d => E i (i + 1 + d)) (n - (i + 1)) = A i := fun i => by rw [eA]
  rw [← eA]
  refine eb_loopF n (fun i => (eb_S A i, nI i, m)) (eb_S A n, m) rfl (fun i hi => ?_) ?_ (by unfold ea_fuel; omega)
  · unfold f_X11_alike_s8
    dsimp only
    rw [hK.1, eb_bdR, if_neg (nI_ge hi (by omega)), eb_bdR, nI_1]
    refine eb_loopB (n - (i + 1)) (fun d => (eb_S A i + eb_S (fun d => E i (i + 1 + d)) d, nI (i + 1 + d), m)) (eb_S A i + A i, m) (by show _ = (eb_S A i + 0, nI (i + 1), m); rw [Int32.add_zero]) (fun d hd => ?_) ?_ (by unfold ea_fuel; omega) rfl
    · unfold f_X11_alike_s23 f_X11_alike_j55
      dsimp only
      rw [hK.1, eb_bdR, if_neg (nI_ge (by omega) (by omega)), eb_gN (j := i) (by omega) (by decide), eb_bdR, nI_clamp (n := i) (by omega), eb_rFates i (by omega), eb_gN (by omega) (by decide), eb_bdR, nI_clamp (by omega), eb_rFates (i + 1 + d) (by omega), eb_asGoodA (hK.2 i hi) (hK.2 (i + 1 + d) (by omega)), eb_clR, E1, nI_1]
      have nx : eb_S (fun d => E i (i + 1 + d)) (d + 1) = eb_S (fun d => E i (i + 1 + d)) d + E i (i + 1 + d) := rfl
      rw [nx, ← Int32.add_assoc]
      rcases E01 i (i + 1 + d) with y | y
      · rw [y, if_pos rfl, Int32.add_zero]; rfl
      · rw [y, if_neg eb_ne10]; rfl
    · unfold f_X11_alike_s23
      dsimp only
      rw [hK.1, eb_bdR, if_pos (nI_le (by omega) (by omega)), A1]
  · unfold f_X11_alike_s8
    dsimp only
    rw [hK.1, eb_bdR, if_pos (nI_le (Nat.le_refl _) (by omega))]
theorem eb_alikeM (hK : eb_KM m n g) (hn : n ≤ 6) : ea_loop f_X12_alike_s13 ea_fuel (0, 0, m) = some (eb_S (fun i => eb_S (fun j => eb_eq (g i) (g j) 8) i) n, m) := by
  obtain ⟨E, eE⟩ : ∃ E : Nat → Nat → Int32, E = fun i j => eb_eq (g i) (g j) 8 := ⟨_, rfl⟩
  have E1 : ∀ i j, eb_eq (g i) (g j) 8 = E i j := fun i j => by rw [eE]
  have E01 : ∀ i j, E i j = 0 ∨ E i j = 1 := fun i j => by rw [← E1]; exact eb_eq01 _ _ _
  have e : (fun i => eb_S (fun j => eb_eq (g i) (g j) 8) i) = fun i => eb_S (fun j => E i j) i := by
    funext i
    exact eb_S_cg fun d _ => E1 _ _
  rw [e]
  obtain ⟨A, eA⟩ : ∃ A : Nat → Int32, A = fun i => eb_S (fun j => E i j) i := ⟨_, rfl⟩
  have A1 : ∀ i, eb_S (fun j => E i j) i = A i := fun i => by rw [eA]
  rw [← eA]
  refine eb_loopF n (fun i => (eb_S A i, nI i, m)) (eb_S A n, m) rfl (fun i hi => ?_) ?_ (by unfold ea_fuel; omega)
  · unfold f_X12_alike_s13
    dsimp only
    rw [eb_birds, eb_clR, hK.1, if_neg (nI_ge hi (by omega)), nI_1]
    refine eb_loopB i (fun d => (eb_S A i + eb_S (fun j => E i j) d, nI d, m)) (eb_S A i + A i, m) (by show _ = (eb_S A i + 0, nI 0, m); rw [Int32.add_zero]; rfl) (fun d hd => ?_) ?_ (by unfold ea_fuel; omega) rfl
    · have nx : eb_S (fun j => E i j) (d + 1) = eb_S (fun j => E i j) d + E i d := rfl
      unfold f_X12_alike_s23 f_X12_alike_j87
      dsimp only
      rw [if_neg (nI_ge hd (by omega)), nx, ← Int32.add_assoc, nI_1]
      refine eb_loopB 8 (fun k => (eb_eq (g i) (g d) k, nI (k + 1), m)) (E i d, m) rfl (fun k hk => ?_) ?_ (by decide) ?_
      · unfold f_X12_alike_s34 f_X12_alike_j67 f_X12_alike_j68
        dsimp only
        rw [if_neg (show ¬ (8 : Int32) < nI (k + 1) from nI_nlt (a := 8) (by omega) (by decide)), nI_1]
        show _ = some (Sum.inl (if eb_eq (g i) (g d) k = 0 then (0 : Int32) else if g i k = g d k then 1 else 0, nI (k + 1 + 1), m))
        by_cases q : eb_eq (g i) (g d) k = 0
        · rw [if_pos q, if_pos q]
        · rw [if_neg q, if_neg q, eb_goodOfM hK hn hi hk, eb_clR, eb_goodOfM hK hn (by omega) hk, eb_clR]
          by_cases q2 : g i k = g d k
          · rw [if_pos q2, if_pos q2]
          · rw [if_neg q2, if_neg q2]
      · unfold f_X12_alike_s34
        dsimp only
        rw [if_pos (show (8 : Int32) < nI (8 + 1) by decide), E1]
      · dsimp only
        rcases E01 i d with y | y
        · rw [y, if_pos rfl, eb_bdR]
        · rw [y, if_neg eb_ne10, eb_bdR]
    · unfold f_X12_alike_s23
      dsimp only
      rw [if_pos (nI_le (Nat.le_refl _) (by omega)), A1]
  · unfold f_X12_alike_s13
    dsimp only
    rw [eb_birds, eb_clR, hK.1, if_pos (nI_le (Nat.le_refl _) (by omega))]
theorem eb_p_alike (h : eb_I m) : eb_P2 eb_I (f_X11_alike m) f_X12_alike := by
  obtain ⟨n, hn, e1, e2, e3⟩ := eb_IB h
  unfold f_X11_alike
  refine eb_cl (eb_reckonF h) fun r m3 hk => ?_
  have hk : eb_kf m m3 := hk
  rw [eb_alikeA (eb_KA_of h e3 hk) hn, eb_obR]
  refine eb_some ?_
  unfold f_X12_alike
  have k273 : (ea_st m3 272 0 0) 273 = m 273 := by rw [eb_stA _ _ _ (by decide), hk.2.1]
  rw [eb_bdR]
  refine eb_cl (eb_laysAll hn k273 e1 (eb_OK_of h)) fun r m6 hz => ?_
  obtain ⟨z1, hK⟩ := hz
  have z1 : eb_MZ (ea_st m3 272 0 0) m6 := z1
  rw [eb_alikeM hK hn, eb_obR]
  refine eb_some ⟨eb_pairs (fun i j => eb_eq (eb_g8 (m 273) i) (eb_g8 (m 273) j) 8) (fun i j => eb_eq_c _ _ _) n, eb_I_cg (eb_E_pt fun a i hs => ?_) hk.1⟩
  unfold eb_Sc at hs
  by_cases q : a = 272
  · subst q
    show m6 272 i = _
    rw [z1.2 i (by omega) (by omega) (by omega), eb_stI _ _ _ (by omega)]
  · show m6 a i = _
    rw [z1.1 a q (by omega) (by omega) (by omega) (by omega) (by omega), eb_stA _ _ _ q]
end TELL
