section WIDEST
variable {m m1 mm z : ea_M} {w w' : Nat → Int32} {g : Nat → Nat → Int32} {n i j k : Nat} {D : Nat → Prop}
theorem eb_finI {u : Int32} (hI : eb_I m1) (hz : eb_MZ (ea_st (ea_st m1 287 0 u) 272 0 0) z) : z 272 0 = 0 ∧ z 287 0 = u ∧ eb_I z := by
  refine ⟨?_, ?_, eb_I_cg (eb_E_pt fun a i hs => ?_) hI⟩
  · rw [hz.2 0 (by decide) (by decide) (by decide), eb_st]
  · rw [hz.1 287 (by decide) (by decide) (by decide) (by decide) (by decide) (by decide), eb_stA _ _ _ (by decide), eb_st]
  · unfold eb_Sc at hs
    by_cases q : a = 272
    · subst q
      rw [hz.2 i (by omega) (by omega) (by omega), eb_stI _ _ _ (by omega), eb_stA _ _ _ (by decide)]
    · rw [hz.1 a q (by omega) (by omega) (by omega) (by omega) (by omega), eb_stA _ _ _ q, eb_stA _ _ _ (by omega)]
/-- what guessing leaves alone: of the class, of the reference -/
def eb_GW (D : Nat → Prop) (m m' : ea_M) : Prop := (∀ r, r ≠ 2 → r ≠ 16 → r ≠ 22 → r ≠ 23 → r ≠ 73 → r ≠ 77 → r ≠ 78 → ¬ (80 ≤ r ∧ r ≤ 85) → m' r = m r) ∧ (∀ i, i ≠ 2 → i ≠ 3 → m' 16 i = m 16 i) ∧ ∀ i, ¬ D i → m' 2 i = m 2 i
def eb_MW (D : Nat → Prop) (m m' : ea_M) : Prop := (∀ r, r ≠ 272 → r ≠ 273 → r ≠ 280 → r ≠ 281 → r ≠ 282 → r ≠ 283 → r ≠ 286 → m' r = m r) ∧ (∀ i, ¬ (18 ≤ i ∧ i ≤ 21) → i ≠ 25 → i ≠ 26 → m' 272 i = m 272 i) ∧ ∀ i, ¬ D i → m' 273 i = m 273 i
theorem eb_GW_refl (m : ea_M) : eb_GW D m m := ⟨fun _ _ _ _ _ _ _ _ _ => rfl, fun _ _ _ => rfl, fun _ _ => rfl⟩
theorem eb_MW_refl (m : ea_M) : eb_MW D m m := ⟨fun _ _ _ _ _ _ _ _ => rfl, fun _ _ _ _ => rfl, fun _ _ => rfl⟩
theorem eb_GW_st (h : eb_GW D m mm) (hi : D i) (v : Int32) : eb_GW D m (ea_st mm 2 i v) := ⟨fun r q1 q2 q3 q4 q5 q6 q7 q8 => by rw [eb_stA _ _ _ q1]; exact h.1 r q1 q2 q3 q4 q5 q6 q7 q8, fun i q1 q2 => by rw [eb_stA _ _ _ (by decide)]; exact h.2.1 i q1 q2, fun j q => by rw [eb_stI _ _ _ (fun z : j = i => q (by rw [z]; exact hi))]; exact h.2.2 j q⟩
theorem eb_MW_st (h : eb_MW D m mm) (hi : D i) (v : Int32) : eb_MW D m (ea_st mm 273 i v) := ⟨fun r q1 q2 q3 q4 q5 q6 q7 => by rw [eb_stA _ _ _ q2]; exact h.1 r q1 q2 q3 q4 q5 q6 q7, fun i q1 q2 q3 => by rw [eb_stA _ _ _ (by decide)]; exact h.2.1 i q1 q2 q3, fun j q => by rw [eb_stI _ _ _ (fun z : j = i => q (by rw [z]; exact hi))]; exact h.2.2 j q⟩
theorem eb_GW_RG {a : Nat} (ha : a = 80 ∨ a = 83) (h : eb_GW D m mm) (hr : eb_RG a mm z) : eb_GW D m z := ⟨fun r q1 q2 q3 q4 q5 q6 q7 q8 => by rw [hr.1 r q2 q3 q4 q5 q6 q7 (by omega) (by omega) (by omega)]; exact h.1 r q1 q2 q3 q4 q5 q6 q7 q8, fun i q1 q2 => by rw [hr.2 i q1 q2]; exact h.2.1 i q1 q2, fun j q => by rw [hr.1 2 (by decide) (by decide) (by decide) (by decide) (by decide) (by decide) (by omega) (by omega) (by omega)]; exact h.2.2 j q⟩
theorem eb_MW_MZ (h : eb_MW D m mm) (hr : eb_MZ mm z) : eb_MW D m z := ⟨fun r q1 q2 q3 q4 q5 q6 q7 => by rw [hr.1 r q1 q3 q4 q5 q6 q7]; exact h.1 r q1 q2 q3 q4 q5 q6 q7, fun i q1 q2 q3 => by rw [hr.2 i q1 q2 q3]; exact h.2.1 i q1 q2 q3, fun j q => by rw [eb_MZ_273 hr]; exact h.2.2 j q⟩
theorem eb_GW_E (h : eb_GW D m mm) (h2 : ∀ i, D i → mm 2 i = m 2 i) : eb_E m mm := eb_E_pt fun a i hs => by
  unfold eb_Sc at hs
  by_cases q : a = 16
  · subst q
    exact h.2.1 i (by omega) (by omega)
  · by_cases q2 : a = 2
    · subst q2
      by_cases q3 : D i
      · exact h2 i q3
      · exact h.2.2 i q3
    · rw [h.1 a q2 q (by omega) (by omega) (by omega) (by omega) (by omega) (by omega)]
theorem eb_MW_MZ2 (h : eb_MW D m mm) (h2 : ∀ i, D i → mm 273 i = m 273 i) : eb_MZ m mm := by
  refine ⟨fun r q1 q2 q3 q4 q5 q6 => ?_, h.2.1⟩
  by_cases q : r = 273
  · subst q
    funext i
    by_cases q3 : D i
    · exact h2 i q3
    · exact h.2.2 i q3
  · exact h.1 r q1 q q2 q3 q4 q5 q6
theorem eb_A_up {w' : Nat → Int32} (hA : eb_A m w n) (hn : n ≤ 6) (k : ∀ r, 3 ≤ r → r < 22 → r ≠ 16 → mm r = m r) (g16 : ∀ i, i ≠ 2 → i ≠ 3 → mm 16 i = m 16 i) (t0 : mm 2 0 = w' 7) (t1 : mm 2 1 = w' 8) (t2 : mm 2 2 = w' 9) (t3 : mm 2 3 = w' 10) (t4 : mm 2 4 = w' 6) (hw : ∀ j, j ≠ 6 → j ≠ 9 → j ≠ 10 → w' j = w j) : eb_A mm w' n := by
  obtain ⟨h1, h2, h3, h4, h5, h6, h7, h8⟩ := hA
  refine ⟨t0, t1, t2, t3, t4, fun l hl => ?_, fun b hb => ?_, ?_⟩
  · rw [k 3 (by decide) (by decide) (by decide), hw _ (by omega) (by omega) (by omega)]; exact h6 l hl
  · rw [k 4 (by decide) (by decide) (by decide), k 5 (by decide) (by decide) (by decide), hw _ (by omega) (by omega) (by omega), hw _ (by omega) (by omega) (by omega)]; exact h7 b hb
  · exact eb_LR_cg (l := eb_ct m 16) (l' := eb_ct mm 16) (g16 0 (by decide) (by decide)) (g16 1 (by decide) (by decide)) (fun i j _ _ _ => congrFun (k (16 + i) (by omega) (by omega) (by omega)) j) (fun j _ _ => congrFun (k 21 (by decide) (by decide) (by decide)) j) (hw 4 (by decide) (by decide) (by decide)) (fun j _ _ => hw j (by omega) (by omega) (by omega)) h8
theorem eb_LR_up {l : Nat → Nat → Int32} (h : eb_LR l w) (hw : ∀ j, j ≠ 6 → j ≠ 9 → j ≠ 10 → w' j = w j) : eb_LR l w' := eb_LR_cg rfl rfl (fun _ _ _ _ _ => rfl) (fun _ _ _ => rfl) (hw 4 (by decide) (by decide) (by decide)) (fun j _ _ => hw j (by omega) (by omega) (by omega)) h
/-- the yard moved to i -/
def eb_wy (w : Nat → Int32) (d i : Nat) : Nat → Int32 := upd (upd w 9 (nI i)) 10 (nI (i + d))
theorem eb_wy9 {d : Nat} : eb_wy w d i 9 = nI i := by unfold eb_wy; rw [pk_un (by decide), pk_us]
theorem eb_wy10 {d : Nat} : eb_wy w d i 10 = nI (i + d) := by unfold eb_wy; rw [pk_us]
theorem eb_wyN {d : Nat} (h1 : j ≠ 9) (h2 : j ≠ 10) : eb_wy w d i j = w j := by unfold eb_wy; rw [pk_un h2, pk_un h1]
noncomputable def eb_gsum (w : Nat → Int32) (b : Nat) : Int32 := eb_S (eb_g8 w b) 8
noncomputable def eb_wd1 (w : Nat → Int32) (d b i : Nat) (s : Int32 × Int32) : Int32 × Int32 := if eb_gsum (eb_wy w d i) b ≤ s.1 then s else (eb_gsum (eb_wy w d i) b, nI i)
def eb_Dy (i : Nat) : Prop := i = 9 ∨ i = 10
def eb_Dc (i : Nat) : Prop := i = 2 ∨ i = 3
theorem eb_p_widest (p1 : Int32) (h : eb_I m) : eb_P eb_I (f_L_widest p1 m) (f_X12_widest p1) := by
  obtain ⟨n, hn, e1, e2, e3⟩ := eb_IB h
  have g0' : (ea_st m 272 0 0) 273 0 = nI n := e1
  rcases eb_ix (p := p1) (x := nI n) rfl (by omega) with hp | ⟨b, hb, rfl⟩
  · refine eb_Pk1 h (k := 1) (v := 0) ?_ ?_ (by decide)
    · unfold f_L_widest f_X11_widest
      rw [eb_needBird, e2, if_neg hp]
      rfl
    · unfold f_X12_widest
      rw [eb_bdR, eb_noBird p1 g0' (by omega), eb_clR, if_neg hp, eb_throwsIf1, eb_clR, if_neg eb_ne10]
  have hp := eb_ixT hb (show n < 2 ^ 31 by omega)
  obtain ⟨fr, tw, tp, tv, r1, r2, r3, r4, r5, r6, r7, r8, r9⟩ := eb_rng h
  have hA := eb_A_of h
  rw [e3] at hA
  obtain ⟨a0, a1, a2, a3, a4, _⟩ := hA
  have hA := eb_A_of h
  rw [e3] at hA
  obtain ⟨d, hd⟩ : ∃ d, d = tw - fr := ⟨_, rfl⟩
  obtain ⟨F, eF⟩ : ∃ F, F = eb_F (eb_wd1 (m 273) d b) (-1, 0) := ⟨_, rfl⟩
  have nx : ∀ i, F (i + 1) = eb_wd1 (m 273) d b i (F i) := fun i => by rw [eF, eb_F_s]
  have F0 : F 0 = (-1, 0) := by rw [eF]; rfl
  have add : ∀ i, (nI i + nI tw) - nI fr = nI (i + d) := fun i => by rw [nI_add, pk_sub (by omega), show i + tw - fr = i + d by omega]
  unfold f_L_widest
  refine eb_Lw (fun u m1 => eb_E m m1 ∧ m1 273 = m 273 ∧ u = (F (16 - d)).2) ?_ ?_
  · unfold f_X11_widest
    rw [eb_needBird, e2, if_pos hp, eb_cx0, a2, eb_bdR, a3, eb_bdR, r1, r2]
    refine eb_bind (eb_for (Q := fun x => x.1 = (F (16 - d)).2 ∧ eb_GW eb_Dc m x.2) (16 - d) (fun i t => t.1 = (F i).1 ∧ t.2.1 = (F i).2 ∧ t.2.2.1 = nI i ∧ eb_GW eb_Dc m t.2.2.2) ?_ ?_ (by unfold ea_fuel; omega) ⟨by rw [F0], by rw [F0], rfl, eb_GW_refl _⟩) fun x hx => ?_
    · rintro i ⟨t1, t2, t3, mm⟩ hi ⟨g1, g2, g3, g4⟩
      have g1 : t1 = (F i).1 := g1
      have g2 : t2 = (F i).2 := g2
      have g3 : t3 = nI i := g3
      subst g1 g2 g3
      have g4 : eb_GW eb_Dc m mm := g4
      unfold f_X11_widest_s30 f_X11_widest_j99
      dsimp only
      rw [add, eb_bdR, if_neg (show ¬ (16 : Int32) ≤ nI (i + d) from nI_ge (b := 16) (by omega) (by decide)), eb_bdR, eb_bdR]
      refine eb_bdE fun m8 e8 => ?_
      have g8 : eb_GW eb_Dc m m8 := by rw [e8]; exact eb_GW_st (eb_GW_st g4 (Or.inl rfl) _) (Or.inr rfl) _
      have q22 : m8 2 2 = nI i := by rw [e8, eb_stI _ _ _ (by decide), eb_st]
      have q23 : m8 2 3 = nI (i + d) := by rw [e8, eb_st]
      have hA8 : eb_A m8 (eb_wy (m 273) d i) n := eb_A_up hA hn (fun r q1 q2 q3 => g8.1 r (by omega) q3 (by omega) (by omega) (by omega) (by omega) (by omega) (by omega)) g8.2.1 (by rw [g8.2.2 0 (by unfold eb_Dc; omega), eb_wyN (by decide) (by decide)]; exact a0) (by rw [g8.2.2 1 (by unfold eb_Dc; omega), eb_wyN (by decide) (by decide)]; exact a1) (by rw [q22, eb_wy9]) (by rw [q23, eb_wy10]) (by rw [g8.2.2 4 (by unfold eb_Dc; omega), eb_wyN (by decide) (by decide)]; exact a4) (fun j _ q2 q3 => eb_wyN q2 q3)
      refine eb_cl (eb_reckonA (a := 80) (Or.inl rfl) hn hb hA8 eb_wy9 eb_wy10 (by omega) (by omega) ((eb_wyN (by decide) (by decide)).trans r5) r7 ((eb_wyN (by decide) (by decide)).trans r8) r9) fun r m9 hz => ?_
      obtain ⟨y1, y2⟩ := hz
      have y1 : eb_RG 80 m8 m9 := y1
      have y2 : ∀ k, k < 8 → m9 (80 + 2) (k + 1) = eb_g8 (eb_wy (m 273) d i) b k := y2.2.2.2
      have g9 := eb_GW_RG (Or.inl rfl) g8 y1
      rw [eb_goodUpA y2, eb_clR, show eb_S (eb_g8 (eb_wy (m 273) d i) b) 8 = eb_gsum (eb_wy (m 273) d i) b from rfl]
      have nxi := nx i
      unfold eb_wd1 at nxi
      by_cases q : eb_gsum (eb_wy (m 273) d i) b ≤ (F i).1
      · rw [if_pos q] at nxi ⊢
        exact eb_some ⟨by rw [nxi], by rw [nxi], nI_1 i, g9⟩
      · rw [if_neg q] at nxi ⊢
        exact eb_some ⟨by rw [nxi], by rw [nxi], nI_1 i, g9⟩
    · rintro ⟨t1, t2, t3, mm⟩ ⟨g1, g2, g3, g4⟩
      have g3 : t3 = nI (16 - d) := g3
      subst g3
      unfold f_X11_widest_s30
      dsimp only
      rw [add, eb_bdR, show 16 - d + d = 16 by omega, if_pos (show (16 : Int32) ≤ nI 16 by decide)]
      exact eb_some ⟨g2, g4⟩
    · obtain ⟨x1, x2⟩ := hx
      refine eb_bd (eb_bd (eb_some ⟨rfl, ?_, ?_, x1⟩))
      · refine eb_GW_E (D := eb_Dc) (eb_GW_st (eb_GW_st x2 (Or.inl rfl) _) (Or.inr rfl) _) fun i hi => ?_
        rcases hi with rfl | rfl
        · show ea_st (ea_st x.2 2 2 (nI fr)) 2 3 (nI tw) 2 2 = m 2 2
          rw [eb_stI _ _ _ (by decide), eb_st, a2, r1]
        · show ea_st (ea_st x.2 2 2 (nI fr)) 2 3 (nI tw) 2 3 = m 2 3
          rw [eb_st, a3, r2]
      · show ea_st (ea_st x.2 2 2 (nI fr)) 2 3 (nI tw) 273 = m 273
        rw [eb_stA _ _ _ (by decide), eb_stA _ _ _ (by decide), x2.1 273 (by decide) (by decide) (by decide) (by decide) (by decide) (by decide) (by decide) (by decide)]
  · rintro u m1 ⟨hE, hw, hu⟩
    have hI1 := eb_I_cg hE h
    obtain ⟨M, eM⟩ : ∃ M, M = ea_st (ea_st m1 287 0 u) 272 0 0 := ⟨_, rfl⟩
    have k273 : M 273 = m 273 := by rw [eM, eb_stA _ _ _ (by decide), eb_stA _ _ _ (by decide), hw]
    unfold f_X12_widest
    rw [eb_bdR, ← eM, eb_noBird (nI b) (n := n) (by rw [k273]; exact e1) (by omega), eb_clR, if_pos hp, eb_throwsIf0, eb_clR, if_pos rfl, k273, r1, r2, eb_bdR, eb_bdR, pk_sub r3, ← hd, eb_bdR]
    refine eb_bind (eb_for (Q := fun x => x.1 = (F (16 - d)).2 ∧ eb_MW eb_Dy M x.2) (16 - d) (fun i t => t.1 = (F i).2 ∧ t.2.1 = (F i).1 ∧ t.2.2.1 = nI i ∧ eb_MW eb_Dy M t.2.2.2) ?_ ?_ (by unfold ea_fuel; omega) ⟨by rw [F0], by rw [F0], rfl, eb_MW_refl _⟩) fun x hx => ?_
    · rintro i ⟨t1, t2, t3, mm⟩ hi ⟨g1, g2, g3, g4⟩
      have g1 : t1 = (F i).2 := g1
      have g2 : t2 = (F i).1 := g2
      have g3 : t3 = nI i := g3
      subst g1 g2 g3
      have g4 : eb_MW eb_Dy M mm := g4
      unfold f_X12_widest_s47 f_X12_widest_j101
      dsimp only
      rw [nI_add, if_neg (show ¬ (16 : Int32) ≤ nI (i + d) from nI_ge (b := 16) (by omega) (by decide)), eb_bdR]
      refine eb_bdE fun m8 e8 => ?_
      have g8 : eb_MW eb_Dy M m8 := by rw [e8]; exact eb_MW_st (eb_MW_st g4 (Or.inl rfl) _) (Or.inr rfl) _
      have w8 : m8 273 = eb_wy (m 273) d i := by
        funext j
        by_cases q10 : j = 10
        · subst q10
          rw [e8, eb_st, eb_wy10]
        · by_cases q9 : j = 9
          · subst q9
            rw [e8, eb_stI _ _ _ (by decide), eb_st, eb_wy9]
          · rw [g8.2.2 j (by unfold eb_Dy; omega), k273, eb_wyN q9 q10]
      refine eb_cl (eb_laysM (by omega) w8 (eb_LR_up h.1.2.1 (fun j _ q2 q3 => eb_wyN q2 q3)) ((eb_wyN (by decide) (by decide)).trans r5) r6 r7 ((eb_wyN (by decide) (by decide)).trans r8) r9) fun r m9 hz => ?_
      obtain ⟨y1, y2⟩ := hz
      have y1 : eb_MS m8 m9 := y1
      have g9 := eb_MW_MZ g8 (eb_MZ_MS y1)
      have ga : f_X12_goodAll m9 = some (eb_gsum (eb_wy (m 273) d i) b, m9) := eb_goodAllM (w := eb_wy (m 273) d i) (fr := i) (tw := i + d) ((eb_MZ_273 (eb_MZ_MS y1)).trans w8) eb_wy9 eb_wy10 (by omega) (by omega) y2.2.2
      rw [ga, eb_clR]
      have nxi := nx i
      unfold eb_wd1 at nxi
      by_cases q : eb_gsum (eb_wy (m 273) d i) b ≤ (F i).1
      · rw [if_pos q] at nxi ⊢
        rw [eb_bdR]
        refine eb_some ⟨by rw [nxi], ?_, nI_1 i, g9⟩
        show ea_max (F i).1 (eb_gsum (eb_wy (m 273) d i) b) = _
        unfold ea_max
        rw [nxi, if_neg (Int32.not_lt.mpr q)]
      · rw [if_neg q] at nxi ⊢
        rw [eb_bdR]
        refine eb_some ⟨by rw [nxi], ?_, nI_1 i, g9⟩
        show ea_max (F i).1 (eb_gsum (eb_wy (m 273) d i) b) = _
        unfold ea_max
        rw [nxi, if_pos (Int32.not_le.mp q)]
    · rintro ⟨t1, t2, t3, mm⟩ ⟨g1, g2, g3, g4⟩
      have g3 : t3 = nI (16 - d) := g3
      subst g3
      unfold f_X12_widest_s47
      dsimp only
      rw [nI_add, show 16 - d + d = 16 by omega, if_pos (show (16 : Int32) ≤ nI 16 by decide)]
      exact eb_some ⟨g1, g4⟩
    · obtain ⟨x1, x2⟩ := hx
      have hz : eb_MZ M (ea_st (ea_st x.2 273 9 (nI fr)) 273 10 (nI fr + nI d)) := by
        refine eb_MW_MZ2 (D := eb_Dy) (eb_MW_st (eb_MW_st x2 (Or.inl rfl) _) (Or.inr rfl) _) fun i hi => ?_
        rcases hi with rfl | rfl
        · rw [eb_stI _ _ _ (by decide), eb_st, k273, r1]
        · rw [eb_st, k273, r2, nI_add, show fr + d = tw by omega]
      rw [eM] at hz
      have fin := eb_finI hI1 hz
      exact eb_bd (eb_bd (eb_some ⟨fin.1, fin.2.1.trans (hu.trans x1.symm), fin.2.2⟩))
/-! when -/
def eb_wh (w : Nat → Int32) (i : Nat) : Nat → Int32 := upd w 6 (nI i)
theorem eb_wh6 : eb_wh w i 6 = nI i := by unfold eb_wh; rw [pk_us]
theorem eb_whN (h1 : j ≠ 6) : eb_wh w i j = w j := by unfold eb_wh; rw [pk_un h1]
theorem eb_ah_cg {f f' e e' : Nat → Int32} : ∀ n, (∀ k, k < n → f k = e k) → (∀ k, k < n → f' k = e' k) → eb_ah f f' n = eb_ah e e' n := by
  have ng : ∀ n, (∀ k, k < n → f' k = e' k) → eb_ng f' n = eb_ng e' n := by
    intro n
    induction n with
    | zero => intro _; rfl
    | succ n ih =>
      intro h
      show eb_ng f' n - f' n = eb_ng e' n - e' n
      rw [ih (fun k hk => h k (by omega)), h n (by omega)]
  intro n
  induction n with
  | zero => intro _ _; rfl
  | succ n ih =>
    intro h h'
    show eb_ah f f' n + f n * eb_ng f' (n + 1) = eb_ah e e' n + e n * eb_ng e' (n + 1)
    rw [ih (fun k hk => h k (by omega)) (fun k hk => h' k (by omega)), h n (by omega), ng (n + 1) h']
noncomputable def eb_wn1 (w : Nat → Int32) (b c i : Nat) (s : Int32 × Int32) : Int32 × Int32 := if eb_hs (eb_g8 (eb_wh w i)) b c ≤ s.1 then s else (eb_hs (eb_g8 (eb_wh w i)) b c, nI i)
theorem eb_p_when (p1 p2 : Int32) (h : eb_I m) : eb_P eb_I (f_L_when p1 p2 m) (f_X12_when p1 p2) := by
  obtain ⟨n, hn, e1, e2, e3⟩ := eb_IB h
  have g0' : (ea_st m 272 0 0) 273 0 = nI n := e1
  rcases eb_ix (p := p1) (x := nI n) rfl (by omega) with hp | ⟨b, hb, rfl⟩
  · refine eb_Pk1 h (k := 1) (v := 0) ?_ ?_ (by decide)
    · unfold f_L_when f_X11_when
      rw [eb_needBird, e2, if_neg hp]
      rfl
    · unfold f_X12_when
      rw [eb_bdR, eb_noBird p1 g0' (by omega), eb_clR, if_neg hp, if_neg eb_ne10]
      unfold f_X12_when_j22 f_X12_when_j27
      rw [eb_throwsIf1, eb_clR, if_neg eb_ne10]
  have hp := eb_ixT hb (show n < 2 ^ 31 by omega)
  rcases eb_ix (p := p2) (x := nI n) rfl (by omega) with hc | ⟨c, hc, rfl⟩
  · refine eb_Pk1 h (k := 1) (v := 0) ?_ ?_ (by decide)
    · unfold f_L_when f_X11_when
      rw [eb_needBird, e2, if_pos hp, eb_cx0, eb_needBird, e2, if_neg hc]
      rfl
    · unfold f_X12_when
      rw [eb_bdR, eb_noBird (nI b) g0' (by omega), eb_clR, if_pos hp, if_pos rfl, eb_noBird p2 g0' (by omega), eb_clR, if_neg hc, if_neg eb_ne10]
      unfold f_X12_when_j22 f_X12_when_j27
      rw [eb_throwsIf1, eb_clR, if_neg eb_ne10]
  have hc' := eb_ixT hc (show n < 2 ^ 31 by omega)
  obtain ⟨fr, tw, tp, tv, r1, r2, r3, r4, r5, r6, r7, r8, r9⟩ := eb_rng h
  have hA := eb_A_of h
  rw [e3] at hA
  obtain ⟨a0, a1, a2, a3, a4, _⟩ := hA
  have hA := eb_A_of h
  rw [e3] at hA
  obtain ⟨F, eF⟩ : ∃ F, F = eb_F (eb_wn1 (m 273) b c) (-1, 0) := ⟨_, rfl⟩
  have nx : ∀ i, F (i + 1) = eb_wn1 (m 273) b c i (F i) := fun i => by rw [eF, eb_F_s]
  have F0 : F 0 = (-1, 0) := by rw [eF]; rfl
  unfold f_L_when
  refine eb_Lw (fun u m1 => eb_E m m1 ∧ m1 273 = m 273 ∧ u = (F 24).2) ?_ ?_
  · unfold f_X11_when
    rw [eb_needBird, e2, if_pos hp, eb_cx0, eb_needBird, e2, if_pos hc', eb_cx0, a4, eb_bdR]
    refine eb_bind (eb_for (Q := fun x => x.1 = (F 24).2 ∧ eb_GW (· = 4) m x.2) 24 (fun i t => t.1 = (F i).1 ∧ t.2.1 = (F i).2 ∧ t.2.2.1 = nI i ∧ eb_GW (· = 4) m t.2.2.2) ?_ ?_ (by decide) ⟨by rw [F0], by rw [F0], rfl, eb_GW_refl _⟩) fun x hx => ?_
    · rintro i ⟨t1, t2, t3, mm⟩ hi ⟨g1, g2, g3, g4⟩
      have g1 : t1 = (F i).1 := g1
      have g2 : t2 = (F i).2 := g2
      have g3 : t3 = nI i := g3
      subst g1 g2 g3
      have g4 : eb_GW (· = 4) m mm := g4
      unfold f_X11_when_s27 f_X11_when_j95
      dsimp only
      rw [if_neg (show ¬ (24 : Int32) ≤ nI i from nI_ge (b := 24) (by omega) (by decide))]
      refine eb_bdE fun m8 e8 => ?_
      have g8 : eb_GW (· = 4) m m8 := by rw [e8]; exact eb_GW_st g4 rfl _
      have q24 : m8 2 4 = nI i := by rw [e8, eb_st]
      have hA8 : eb_A m8 (eb_wh (m 273) i) n := eb_A_up hA hn (fun r q1 q2 q3 => g8.1 r (by omega) q3 (by omega) (by omega) (by omega) (by omega) (by omega) (by omega)) g8.2.1 (by rw [g8.2.2 0 (by decide), eb_whN (by decide)]; exact a0) (by rw [g8.2.2 1 (by decide), eb_whN (by decide)]; exact a1) (by rw [g8.2.2 2 (by decide), eb_whN (by decide)]; exact a2) (by rw [g8.2.2 3 (by decide), eb_whN (by decide)]; exact a3) (by rw [q24, eb_wh6]) (fun j q1 _ _ => eb_whN q1)
      refine eb_cl (eb_reckonA (a := 80) (Or.inl rfl) hn hb hA8 ((eb_whN (by decide)).trans r1) ((eb_whN (by decide)).trans r2) r3 r4 ((eb_whN (by decide)).trans r5) r7 ((eb_whN (by decide)).trans r8) r9) fun r m9 hz => ?_
      obtain ⟨y1, y2⟩ := hz
      have y1 : eb_RG 80 m8 m9 := y1
      have y2 : ∀ k, k < 8 → m9 (80 + 2) (k + 1) = eb_g8 (eb_wh (m 273) i) b k := y2.2.2.2
      have g9 := eb_GW_RG (Or.inl rfl) g8 y1
      refine eb_cl (eb_reckonA (a := 83) (Or.inr (Or.inl rfl)) hn hc (eb_A_RG (a := 80) (Or.inl rfl) hA8 y1) ((eb_whN (by decide)).trans r1) ((eb_whN (by decide)).trans r2) r3 r4 ((eb_whN (by decide)).trans r5) r7 ((eb_whN (by decide)).trans r8) r9) fun r m10 hz => ?_
      obtain ⟨x1, x2⟩ := hz
      have x1 : eb_RG 83 m9 m10 := x1
      have x2 : ∀ k, k < 8 → m10 (83 + 2) (k + 1) = eb_g8 (eb_wh (m 273) i) c k := x2.2.2.2
      have g10 := eb_GW_RG (Or.inr rfl) g9 x1
      have y3 : ∀ k, k < 8 → m10 (80 + 2) (k + 1) = eb_g8 (eb_wh (m 273) i) b k := fun k hk => by
        rw [x1.1 (80 + 2) (by decide) (by decide) (by decide) (by decide) (by decide) (by decide) (by decide) (by decide) (by decide)]
        exact y2 k hk
      rw [eb_aheadA y3 x2, eb_clR, show eb_ah (eb_g8 (eb_wh (m 273) i) b) (eb_g8 (eb_wh (m 273) i) c) 8 = eb_hs (eb_g8 (eb_wh (m 273) i)) b c from rfl]
      have nxi := nx i
      unfold eb_wn1 at nxi
      by_cases q : eb_hs (eb_g8 (eb_wh (m 273) i)) b c ≤ (F i).1
      · rw [if_pos q] at nxi ⊢
        exact eb_some ⟨by rw [nxi], by rw [nxi], nI_1 i, g10⟩
      · rw [if_neg q] at nxi ⊢
        exact eb_some ⟨by rw [nxi], by rw [nxi], nI_1 i, g10⟩
    · rintro ⟨t1, t2, t3, mm⟩ ⟨g1, g2, g3, g4⟩
      have g3 : t3 = nI 24 := g3
      subst g3
      unfold f_X11_when_s27
      rw [if_pos (show (24 : Int32) ≤ nI 24 by decide)]
      exact eb_some ⟨g2, g4⟩
    · obtain ⟨x1, x2⟩ := hx
      refine eb_bd (eb_some ⟨rfl, ?_, ?_, x1⟩)
      · refine eb_GW_E (D := (· = 4)) (eb_GW_st x2 rfl _) fun i hi => ?_
        subst hi
        show ea_st x.2 2 4 (m 273 6) 2 4 = m 2 4
        rw [eb_st, a4]
      · show ea_st x.2 2 4 (m 273 6) 273 = m 273
        rw [eb_stA _ _ _ (by decide), x2.1 273 (by decide) (by decide) (by decide) (by decide) (by decide) (by decide) (by decide) (by decide)]
  · rintro u m1 ⟨hE, hw, hu⟩
    have hI1 := eb_I_cg hE h
    obtain ⟨M, eM⟩ : ∃ M, M = ea_st (ea_st m1 287 0 u) 272 0 0 := ⟨_, rfl⟩
    have k273 : M 273 = m 273 := by rw [eM, eb_stA _ _ _ (by decide), eb_stA _ _ _ (by decide), hw]
    have k0 : M 273 0 = nI n := by rw [k273]; exact e1
    unfold f_X12_when
    rw [eb_bdR, ← eM, eb_noBird (nI b) (n := n) k0 (by omega), eb_clR, if_pos hp, if_pos rfl, eb_noBird (nI c) (n := n) k0 (by omega), eb_clR, if_pos hc', if_pos rfl]
    unfold f_X12_when_j27
    rw [eb_throwsIf0, eb_clR, if_pos rfl, k273, eb_bdR]
    refine eb_bind (eb_for (Q := fun x => x.1 = (F 24).2 ∧ eb_MW (· = 6) M x.2) 24 (fun i t => t.1 = (F i).2 ∧ t.2.1 = (F i).1 ∧ t.2.2.1 = nI i ∧ eb_MW (· = 6) M t.2.2.2) ?_ ?_ (by decide) ⟨by rw [F0], by rw [F0], rfl, eb_MW_refl _⟩) fun x hx => ?_
    · rintro i ⟨t1, t2, t3, mm⟩ hi ⟨g1, g2, g3, g4⟩
      have g1 : t1 = (F i).2 := g1
      have g2 : t2 = (F i).1 := g2
      have g3 : t3 = nI i := g3
      subst g1 g2 g3
      have g4 : eb_MW (· = 6) M mm := g4
      unfold f_X12_when_s53 f_X12_when_j101
      dsimp only
      rw [if_neg (show ¬ (24 : Int32) ≤ nI i from nI_ge (b := 24) (by omega) (by decide))]
      refine eb_bdE fun m8 e8 => ?_
      have g8 : eb_MW (· = 6) M m8 := by rw [e8]; exact eb_MW_st g4 rfl _
      have w8 : m8 273 = eb_wh (m 273) i := by
        funext j
        by_cases q6 : j = 6
        · subst q6
          rw [e8, eb_st, eb_wh6]
        · rw [g8.2.2 j q6, k273, eb_whN q6]
      have okh : eb_OK (eb_wh (m 273) i) := ⟨⟨_, eb_LR_up h.1.2.1 (fun j q1 _ _ => eb_whN q1)⟩, fr, tw, tp, tv, (eb_whN (by decide)).trans r1, (eb_whN (by decide)).trans r2, r3, r4, (eb_whN (by decide)).trans r5, r6, r7, (eb_whN (by decide)).trans r8, r9⟩
      refine eb_cl (eb_laysG (show b < 6 by omega) w8 okh) fun r m9 hz => ?_
      obtain ⟨y1, y2, y3⟩ := hz
      have y1 : eb_MZ m8 m9 := y1
      have y2 : ∀ k, k < 8 → m9 286 (9 * b + (k + 1)) = eb_g8 (eb_wh (m 273) i) b k := y2
      have w9 := (eb_MZ_273 y1).trans w8
      refine eb_cl (eb_laysG (show c < 6 by omega) w9 okh) fun r m10 hz => ?_
      obtain ⟨x1, x2, x3⟩ := hz
      have x1 : eb_MZ m9 m10 := x1
      have x2 : ∀ k, k < 8 → m10 286 (9 * c + (k + 1)) = eb_g8 (eb_wh (m 273) i) c k := x2
      have x3 : ∀ j, j < 9 * c + 1 ∨ 9 * c + 8 < j → m10 286 j = m9 286 j := x3
      have g10 := eb_MW_MZ (eb_MW_MZ g8 y1) x1
      have y4 : ∀ k, k < 8 → m10 286 (9 * b + (k + 1)) = eb_g8 (eb_wh (m 273) i) b k := fun k hk => by
        by_cases q : b = c
        · subst q; exact x2 k hk
        · rw [x3 _ (by omega)]; exact y2 k hk
      have hK : eb_KM m10 n (fun b k => m10 286 (9 * b + (k + 1))) := ⟨by rw [(eb_MZ_273 x1).trans w9, eb_whN (by decide)]; exact e1, fun _ _ _ _ => rfl⟩
      have fh : f_X12_firstHas (nI b) (nI c) m10 = some (eb_hs (eb_g8 (eb_wh (m 273) i)) b c, m10) := by
        rw [eb_firstHasM hK hn hb hc]
        unfold eb_hs
        rw [eb_ah_cg 8 y4 x2]
      obtain ⟨V, eV⟩ : ∃ V, V = eb_hs (eb_g8 (eb_wh (m 273) i)) b c := ⟨_, rfl⟩
      rw [fh, eb_clR]
      have nxi := nx i
      unfold eb_wn1 at nxi
      rw [← eV] at nxi ⊢
      by_cases q : V ≤ (F i).1
      · rw [if_pos q] at nxi ⊢
        rw [eb_bdR]
        refine eb_some ⟨by rw [nxi], ?_, nI_1 i, g10⟩
        show ea_max (F i).1 V = _
        unfold ea_max
        rw [nxi, if_neg (Int32.not_lt.mpr q)]
      · rw [if_neg q] at nxi ⊢
        rw [eb_bdR]
        refine eb_some ⟨by rw [nxi], ?_, nI_1 i, g10⟩
        show ea_max (F i).1 V = _
        unfold ea_max
        rw [nxi, if_pos (Int32.not_le.mp q)]
    · rintro ⟨t1, t2, t3, mm⟩ ⟨g1, g2, g3, g4⟩
      have g3 : t3 = nI 24 := g3
      subst g3
      unfold f_X12_when_s53
      rw [if_pos (show (24 : Int32) ≤ nI 24 by decide)]
      exact eb_some ⟨g1, g4⟩
    · obtain ⟨x1, x2⟩ := hx
      have hz : eb_MZ M (ea_st x.2 273 6 (m 273 6)) := by
        refine eb_MW_MZ2 (D := (· = 6)) (eb_MW_st x2 rfl _) fun i hi => ?_
        subst hi
        rw [eb_st, k273]
      rw [eM] at hz
      have fin := eb_finI hI1 hz
      exact eb_bd (eb_some ⟨fin.1, fin.2.1.trans (hu.trans x1.symm), fin.2.2⟩)
end WIDEST
