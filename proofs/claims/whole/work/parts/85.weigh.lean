section WEIGH
variable {w F : Nat → Int32} {m mm : ea_M}
noncomputable def eb_G (w F : Nat → Int32) (kd : Int32) (k : Nat) (s : Int32) : Int32 := haveI := Classical.propDecidable (w (483 + 4 * k) = kd ∧ eb_hd w F k); if w (483 + 4 * k) = kd ∧ eb_hd w F k then s + w (484 + 4 * k) else s
theorem eb_sumG (w F : Nat → Int32) (kd : Int32) : eb_sum w F kd = eb_F (eb_G w F kd) 0 (eb_ln w) := rfl
theorem eb_GT {kd : Int32} {k : Nat} (h1 : w (483 + 4 * k) = kd) (h2 : eb_hd w F k) (s : Int32) : eb_G w F kd k s = s + w (484 + 4 * k) := by
  unfold eb_G
  rw [if_pos ⟨h1, h2⟩]
theorem eb_GN {kd : Int32} {k : Nat} (h : ¬ (w (483 + 4 * k) = kd ∧ eb_hd w F k)) (s : Int32) : eb_G w F kd k s = s := by
  unfold eb_G
  rw [if_neg h]
theorem eb_as1 (a b c : Int32) : a + (b - c) = a + b - c := by
  rw [Int32.sub_eq_add_neg, Int32.sub_eq_add_neg, Int32.add_assoc]
theorem eb_as2 (a b c : Int32) : a - b + c = a + c - b := by
  rw [Int32.sub_eq_add_neg, Int32.sub_eq_add_neg, Int32.add_assoc, Int32.add_comm (-b) c, Int32.add_assoc]
theorem eb_as3 (a b c : Int32) : a - b - c = a - (b + c) := by
  rw [Int32.sub_eq_add_neg, Int32.sub_eq_add_neg, Int32.sub_eq_add_neg, Int32.neg_add, Int32.add_assoc, Int32.sub_eq_add_neg]
theorem eb_hdE {k b s : Nat} (e3 : w (485 + 4 * k) = nI b) (e4 : w (486 + 4 * k) = nI s) (hb : b ≤ s) (hs : s ≤ 400) : eb_hd w F k ↔ (eb_ev w F (s - b) b [] = [] ∨ eb_ev w F (s - b) b [] = [1]) := by
  have e1 : eb_bg w k = b := by unfold eb_bg; rw [e3]; exact nI_clamp (by omega)
  have e2 : eb_sp w k = s := by unfold eb_sp; rw [e4]; exact nI_clamp (by omega)
  unfold eb_hd
  rw [e1, e2]
theorem eb_weigh7 (hA : eb_LR (eb_ct m 16) w) (hF : ∀ f, f < 8 → m 22 f = F f) (hF6 : F 6 = 0 ∨ F 6 = 1) (hF7 : F 7 = 0 ∨ F 7 = 1) :
    eb_W (f_X7_weigh 16 m) (fun z => (∀ r, r ≠ 16 → r ≠ 23 → z.2 r = m r) ∧ (∀ i, i ≠ 2 → i ≠ 3 → z.2 16 i = m 16 i) ∧ z.2 16 2 = eb_sum w F 0 - eb_sum w F 1 ∧ z.2 16 3 = eb_sum w F 2 - eb_sum w F 3) := by
  unfold f_X7_weigh
  refine eb_bdE fun m1 e1 => eb_bdE fun m2 e2 => ?_
  have r2 : ∀ r, r ≠ 16 → m2 r = m r := fun r hr => by rw [e2, eb_stA _ _ _ hr, e1, eb_stA _ _ _ hr]
  have r16 : ∀ i, i ≠ 2 → i ≠ 3 → m2 16 i = m 16 i := fun i q2 q3 => by rw [e2, eb_stI _ _ _ q3, e1, eb_stI _ _ _ q2]
  have r162 : m2 16 2 = 0 - 0 := by rw [e2, eb_stI _ _ _ (by decide), e1, eb_st]; rfl
  have r163 : m2 16 3 = 0 - 0 := by rw [e2, eb_st]; rfl
  clear e1 e2
  rcases hA with ⟨a, b, _⟩ | ⟨a, n, len, hn, hlen, a0, a1, a2, a3, a4⟩
  · have eln : eb_ln w = 0 := by unfold eb_ln; rw [a]; rfl
    have q : f_X7_weigh_s12 16 (0, m2) = some (.inr m2) := by
      unfold f_X7_weigh_s12
      dsimp only
      rw [r16 0 (by decide) (by decide), show m 16 0 = -1 from b, eb_bdR, if_pos (by decide)]
    rw [show (ea_fuel : Nat) = 99999 + 1 from rfl, eb_loop_inr q, eb_obR, eb_sumG, eb_sumG, eb_sumG, eb_sumG, eln]
    exact eb_some ⟨fun r h1 _ => r2 r h1, r16, r162, r163⟩
  · have eln : eb_ln w = n := by unfold eb_ln; rw [if_pos a, a1]; exact nI_clamp (by omega)
    rw [eb_sumG, eb_sumG, eb_sumG, eb_sumG, eln]
    refine eb_bind (eb_for (Q := fun z => (∀ r, r ≠ 16 → r ≠ 23 → z r = m r) ∧ (∀ i, i ≠ 2 → i ≠ 3 → z 16 i = m 16 i) ∧ z 16 2 = eb_F (eb_G w F 0) 0 n - eb_F (eb_G w F 1) 0 n ∧ z 16 3 = eb_F (eb_G w F 2) 0 n - eb_F (eb_G w F 3) 0 n) n (fun k t => t.1 = nI k ∧ (∀ r, r ≠ 16 → r ≠ 23 → t.2 r = m r) ∧ (∀ i, i ≠ 2 → i ≠ 3 → t.2 16 i = m 16 i) ∧ t.2 16 2 = eb_F (eb_G w F 0) 0 k - eb_F (eb_G w F 1) 0 k ∧ t.2 16 3 = eb_F (eb_G w F 2) 0 k - eb_F (eb_G w F 3) 0 k) ?_ ?_ (by unfold ea_fuel; omega) ⟨rfl, fun r h1 _ => r2 r h1, r16, r162, r163⟩) fun z hz => eb_some hz
    · rintro k ⟨t1, mm⟩ hk ⟨g1, g2, g3, g4, g5⟩
      have g1 : t1 = nI k := g1
      subst g1
      have g2 : ∀ r, r ≠ 16 → r ≠ 23 → mm r = m r := g2
      have g3 : ∀ i, i ≠ 2 → i ≠ 3 → mm 16 i = m 16 i := g3
      have g4 : mm 16 2 = eb_F (eb_G w F 0) 0 k - eb_F (eb_G w F 1) 0 k := g4
      have g5 : mm 16 3 = eb_F (eb_G w F 2) 0 k - eb_F (eb_G w F 3) 0 k := g5
      obtain ⟨b1, ⟨kd, hkd, ekd⟩, b3, b, s, c1, c2, c3, c4, c5, c6, c7⟩ := a4 k hk
      have b1 : m 17 k = w (483 + 4 * k) := b1
      have b3 : m 18 k = w (484 + 4 * k) := b3
      have c3 : m 19 k = nI b := c3
      have c5 : m 20 k = nI s := c5
      unfold f_X7_weigh_s12
      dsimp only
      rw [g3 0 (by decide) (by decide), show m 16 0 = nI n from a0, eb_bdR, if_neg (nI_ge hk (by omega)), if_neg (show ¬ (12 : Int32) ≤ nI k from nI_ge (b := 12) (by omega) (by decide))]
      refine eb_cl (eb_holdsA (m := mm) (w := w) (F := F) (k := k) (len := len) (by omega) c1 c2 hlen (by rw [g2 19 (by decide) (by decide)]; exact c3) (by rw [g2 20 (by decide) (by decide)]; exact c5) (fun i hi => by rw [g2 21 (by decide) (by decide)]; exact a3 i hi) (fun f hf => by rw [g2 22 (by decide) (by decide)]; exact hF f hf) hF6 hF7 c7) fun r m4 hz => ?_
      dsimp only at hz
      obtain ⟨z1, z2⟩ := hz
      have hd := eb_hdE (F := F) c4 c6 c1 (show s ≤ 400 by omega)
      have k2 : ∀ r, r ≠ 16 → r ≠ 23 → m4 r = m r := fun r h1 h2 => (z1 r h2).trans (g2 r h1 h2)
      have k16 : m4 16 = mm 16 := z1 16 (by decide)
      have nx : ∀ q : Int32, eb_F (eb_G w F q) 0 (k + 1) = eb_G w F q k (eb_F (eb_G w F q) 0 k) := fun _ => rfl
      rcases z2 with ⟨z2, z3⟩ | ⟨z2, z3⟩
      · have hh := hd.mpr z3
        subst z2
        unfold f_X7_weigh_j137
        rw [if_neg eb_ne10, eb_gN (by omega) (by decide), eb_bdR, nI_clamp (by omega), show m4 (16 + 1) k = nI kd by rw [k2 17 (by decide) (by decide), b1, ekd]]
        have sz : m4 (16 + 2) k = w (484 + 4 * k) := by rw [k2 18 (by decide) (by decide), b3]
        obtain rfl | rfl | rfl | rfl : kd = 0 ∨ kd = 1 ∨ kd = 2 ∨ kd = 3 := by omega
        · rw [if_pos (show nI 0 = 0 from rfl), eb_bdR, eb_gN (by omega) (by decide), eb_bdR, eb_bdR, sz, k16, g4, nI_1]
          refine eb_some ⟨rfl, fun r h1 h2 => ?_, fun i h1 h2 => ?_, ?_, ?_⟩
          · show ea_st m4 16 2 _ r = _
            rw [eb_stA _ _ _ h1]; exact k2 r h1 h2
          · show ea_st m4 16 2 _ 16 i = _
            rw [eb_stI _ _ _ h1, k16]; exact g3 i h1 h2
          · show ea_st m4 16 2 (eb_F (eb_G w F 0) 0 k - eb_F (eb_G w F 1) 0 k + w (484 + 4 * k)) 16 2 = _
            rw [eb_st, nx, nx, eb_GT (kd := 0) ekd hh, eb_GN (fun y => absurd (ekd.symm.trans y.1) (by decide)), eb_as2]
          · show ea_st m4 16 2 (eb_F (eb_G w F 0) 0 k - eb_F (eb_G w F 1) 0 k + w (484 + 4 * k)) 16 3 = _
            rw [eb_stI _ _ _ (by decide), k16, g5, nx, nx, eb_GN (fun y => absurd (ekd.symm.trans y.1) (by decide)), eb_GN (fun y => absurd (ekd.symm.trans y.1) (by decide))]
        · rw [if_neg (show ¬ nI 1 = 0 by decide), if_pos (show nI 1 = 1 from rfl), eb_bdR, eb_gN (by omega) (by decide), eb_bdR, eb_bdR, sz, k16, g4, nI_1]
          refine eb_some ⟨rfl, fun r h1 h2 => ?_, fun i h1 h2 => ?_, ?_, ?_⟩
          · show ea_st m4 16 2 _ r = _
            rw [eb_stA _ _ _ h1]; exact k2 r h1 h2
          · show ea_st m4 16 2 _ 16 i = _
            rw [eb_stI _ _ _ h1, k16]; exact g3 i h1 h2
          · show ea_st m4 16 2 (eb_F (eb_G w F 0) 0 k - eb_F (eb_G w F 1) 0 k - w (484 + 4 * k)) 16 2 = _
            rw [eb_st, nx, nx, eb_GN (fun y => absurd (ekd.symm.trans y.1) (by decide)), eb_GT (kd := 1) ekd hh, eb_as3]
          · show ea_st m4 16 2 (eb_F (eb_G w F 0) 0 k - eb_F (eb_G w F 1) 0 k - w (484 + 4 * k)) 16 3 = _
            rw [eb_stI _ _ _ (by decide), k16, g5, nx, nx, eb_GN (fun y => absurd (ekd.symm.trans y.1) (by decide)), eb_GN (fun y => absurd (ekd.symm.trans y.1) (by decide))]
        · rw [if_neg (show ¬ nI 2 = 0 by decide), if_neg (show ¬ nI 2 = 1 by decide), if_pos (show nI 2 = 2 from rfl), eb_bdR, eb_gN (by omega) (by decide), eb_bdR, eb_bdR, sz, k16, g5, nI_1]
          refine eb_some ⟨rfl, fun r h1 h2 => ?_, fun i h1 h2 => ?_, ?_, ?_⟩
          · show ea_st m4 16 3 _ r = _
            rw [eb_stA _ _ _ h1]; exact k2 r h1 h2
          · show ea_st m4 16 3 _ 16 i = _
            rw [eb_stI _ _ _ h2, k16]; exact g3 i h1 h2
          · show ea_st m4 16 3 (eb_F (eb_G w F 2) 0 k - eb_F (eb_G w F 3) 0 k + w (484 + 4 * k)) 16 2 = _
            rw [eb_stI _ _ _ (by decide), k16, g4, nx, nx, eb_GN (fun y => absurd (ekd.symm.trans y.1) (by decide)), eb_GN (fun y => absurd (ekd.symm.trans y.1) (by decide))]
          · show ea_st m4 16 3 (eb_F (eb_G w F 2) 0 k - eb_F (eb_G w F 3) 0 k + w (484 + 4 * k)) 16 3 = _
            rw [eb_st, nx, nx, eb_GT (kd := 2) ekd hh, eb_GN (fun y => absurd (ekd.symm.trans y.1) (by decide)), eb_as2]
        · rw [if_neg (show ¬ nI 3 = 0 by decide), if_neg (show ¬ nI 3 = 1 by decide), if_neg (show ¬ nI 3 = 2 by decide), eb_bdR, eb_gN (by omega) (by decide), eb_bdR, eb_bdR, sz, k16, g5, nI_1]
          refine eb_some ⟨rfl, fun r h1 h2 => ?_, fun i h1 h2 => ?_, ?_, ?_⟩
          · show ea_st m4 16 3 _ r = _
            rw [eb_stA _ _ _ h1]; exact k2 r h1 h2
          · show ea_st m4 16 3 _ 16 i = _
            rw [eb_stI _ _ _ h2, k16]; exact g3 i h1 h2
          · show ea_st m4 16 3 (eb_F (eb_G w F 2) 0 k - eb_F (eb_G w F 3) 0 k - w (484 + 4 * k)) 16 2 = _
            rw [eb_stI _ _ _ (by decide), k16, g4, nx, nx, eb_GN (fun y => absurd (ekd.symm.trans y.1) (by decide)), eb_GN (fun y => absurd (ekd.symm.trans y.1) (by decide))]
          · show ea_st m4 16 3 (eb_F (eb_G w F 2) 0 k - eb_F (eb_G w F 3) 0 k - w (484 + 4 * k)) 16 3 = _
            rw [eb_st, nx, nx, eb_GN (fun y => absurd (ekd.symm.trans y.1) (by decide)), eb_GT (kd := 3) ekd hh, eb_as3]
      · have hh : ¬ eb_hd w F k := fun y => z3 (hd.mp y)
        subst z2
        unfold f_X7_weigh_j137
        rw [if_pos rfl, nI_1]
        refine eb_some ⟨rfl, k2, fun i h1 h2 => ?_, ?_, ?_⟩
        · show m4 16 i = _
          rw [k16]; exact g3 i h1 h2
        · show m4 16 2 = _
          rw [k16, g4, nx, nx, eb_GN (fun y => hh y.2), eb_GN (fun y => hh y.2)]
        · show m4 16 3 = _
          rw [k16, g5, nx, nx, eb_GN (fun y => hh y.2), eb_GN (fun y => hh y.2)]
    · rintro ⟨t1, mm⟩ ⟨g1, g2, g3, g4, g5⟩
      have g1 : t1 = nI n := g1
      subst g1
      have g3 : ∀ i, i ≠ 2 → i ≠ 3 → mm 16 i = m 16 i := g3
      unfold f_X7_weigh_s12
      dsimp only
      rw [g3 0 (by decide) (by decide), show m 16 0 = nI n from a0, eb_bdR, if_pos (nI_le (Nat.le_refl _) (by omega))]
      exact eb_some ⟨g2, g3, g4, g5⟩
end WEIGH
