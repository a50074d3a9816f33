section STRAIGHT
variable {m mm : ea_M} {w : Nat → Int32}
noncomputable def eb_it (w : Nat → Int32) (b : Int32) (s0 : eb_Fl) : Nat → eb_Fl
  | 0 => s0
  | k + 1 => if (eb_it w b s0 k).2.2.1 = 1 then eb_dr1 w b k 0 (eb_it w b s0 k) else eb_it w b s0 k
theorem eb_fly1 {s : eb_Fl} (h : eb_fly s) : s.2.2.1 = 1 := by
  obtain ⟨v, c, _, _, _, rfl⟩ := h
  rfl
theorem eb_done0 {s : eb_Fl} (h : eb_done s) : ¬ s.2.2.1 = 1 := by
  rw [h.1]
  decide
theorem eb_dr1_ld {b : Int32} {k : Nat} {g : Int32} {s : eb_Fl} : (eb_dr1 w b k g s).2.2.2.1 = 0 ∨ (eb_dr1 w b k g s).2.2.2.1 = nI (k + 1) := by
  unfold eb_dr1
  obtain ⟨x, ex⟩ : ∃ x, x = s.2.1 + eb_cr w b s.1 s.2.1 (nI k) + eb_dr w b g := ⟨_, rfl⟩
  rw [← ex]
  by_cases q1 : x < 0 ∨ 16 ≤ x
  · rw [if_pos q1]; exact Or.inl rfl
  · rw [if_neg q1]
    by_cases q2 : 0 < s.1 - eb_sk w b s.1 s.2.1 (nI k)
    · rw [if_pos q2]; exact Or.inl rfl
    · rw [if_neg q2]; exact Or.inr rfl
theorem eb_it_done {b : Int32} {s0 : eb_Fl} {i : Nat} (h : eb_done (eb_it w b s0 i)) : ∀ d, eb_it w b s0 (i + d) = eb_it w b s0 i
  | 0 => rfl
  | d + 1 => by
    show (if (eb_it w b s0 (i + d)).2.2.1 = 1 then eb_dr1 w b (i + d) 0 (eb_it w b s0 (i + d)) else eb_it w b s0 (i + d)) = _
    rw [eb_it_done h d, if_neg (eb_done0 h)]
theorem eb_it_fly {b : Int32} {s0 : eb_Fl} {i : Nat} (h : eb_fly (eb_it w b s0 i)) : eb_it w b s0 (i + 1) = eb_dr1 w b i 0 (eb_it w b s0 i) := if_pos (eb_fly1 h)
/-- what is known of the feather before breath i -/
def eb_iv (w : Nat → Int32) (b : Int32) (s0 : eb_Fl) (i : Nat) : Prop := eb_fly (eb_it w b s0 i) ∨ (eb_done (eb_it w b s0 i) ∧ ((eb_it w b s0 i).2.2.2.1 = 0 ∨ (eb_it w b s0 i).2.2.2.1 = nI i))
theorem eb_iv_s {b : Int32} {s0 : eb_Fl} {i : Nat} (hi : i < 8) (h : eb_fly (eb_it w b s0 i)) : eb_iv w b s0 (i + 1) := by
  unfold eb_iv
  rw [eb_it_fly h]
  rcases eb_dr1_ok (w := w) (b := b) hi (g := 0) h with z | z
  · exact Or.inl z
  · exact Or.inr ⟨z, eb_dr1_ld⟩
theorem eb_straightA {n b : Nat} {s0 : eb_Fl} (p : Int32) (hA : eb_A m w n) (hn : n ≤ 6) (hb : b < n) (hs : eb_fA m 74 b s0) (hf : eb_fly s0) : eb_W (ea_loop (f_X11_straight_s25 p) ea_fuel (0, m)) (fun z => eb_DF 74 m z ∧ eb_fA z 74 b (eb_it w (nI b) s0 8)) := by
  refine eb_for 8 (fun i t => t.1 = nI i ∧ eb_DF 74 m t.2 ∧ eb_fA t.2 74 b (eb_it w (nI b) s0 i) ∧ eb_iv w (nI b) s0 i) ?_ ?_ (by decide) ⟨rfl, ⟨fun _ _ _ _ _ _ => rfl, fun _ _ _ => rfl, fun _ _ _ => rfl⟩, hs, Or.inl hf⟩
  · rintro i ⟨t1, mm⟩ hi ⟨g1, g2, g3, g4⟩
    have g1 : t1 = nI i := g1
    subst g1
    have g2 : eb_DF 74 m mm := g2
    have g3 : eb_fA mm 74 b (eb_it w (nI b) s0 i) := g3
    unfold f_X11_straight_s25
    dsimp only
    rw [if_neg (show ¬ (8 : Int32) ≤ nI i from nI_ge (b := 8) hi (by decide)), g3.2.2.2.1, eb_bdR]
    rcases g4 with z | ⟨z, _⟩
    · rw [eb_fly1 z, if_neg eb_ne10]
      refine eb_cl (eb_driftA (eb_A_DF (Or.inl rfl) hA g2) hn hb (Or.inl rfl) g3 z) fun r m6 hz => eb_some ⟨nI_1 i, ⟨fun r a1 a2 a3 a4 a5 => (hz.1.1 r a1 a2 a3 a4 a5).trans (g2.1 r a1 a2 a3 a4 a5), fun i a1 a2 => (hz.1.2.1 i a1 a2).trans (g2.2.1 i a1 a2), fun i a1 a2 => (hz.1.2.2 i a1 a2).trans (g2.2.2 i a1 a2)⟩, ?_, eb_iv_s hi z⟩
      rw [eb_it_fly z]
      exact hz.2
    · rw [z.1, if_pos rfl]
      refine eb_some ⟨g2, ?_⟩
      rw [← eb_it_done z (8 - i), show i + (8 - i) = 8 by omega] at g3
      exact g3
  · rintro ⟨t1, mm⟩ ⟨g1, g2, g3, g4⟩
    have g1 : t1 = nI 8 := g1
    subst g1
    unfold f_X11_straight_s25
    rw [if_pos (show (8 : Int32) ≤ nI 8 by decide)]
    exact eb_some ⟨g2, g3⟩
theorem eb_isFlyingE {j : Nat} (hj : j < 2) (m : ea_M) : f_X12_isFlying (nI j) m = some (if m 284 (4 * j + 2) = 1 then 1 else 0, m) := by
  unfold f_X12_isFlying
  rw [eb_ixs j 2 2 rfl, eb_bdR, eb_gN (by omega) (by decide), eb_bdR, nI_clamp (by omega)]
  by_cases q : m 284 (4 * j + 2) = 1
  · rw [if_pos q, if_pos q]
  · rw [if_neg q, if_neg q]
theorem eb_straightM {l : Nat → Nat → Int32} {b : Nat} {s0 : eb_Fl} (p : Int32) (hb : b < 6) (h273 : m 273 = w) (hL : eb_LR l w) (hs : eb_fM m 0 b s0) (hf : eb_fly s0) : eb_W (ea_loop (f_X12_straight_s28 p) ea_fuel (0, m)) (fun z => eb_MF 0 m z.2 ∧ eb_fM z.2 0 b (eb_it w (nI b) s0 8) ∧ (eb_fly (eb_it w (nI b) s0 8) ∨ (eb_done (eb_it w (nI b) s0 8) ∧ ((eb_it w (nI b) s0 8).2.2.2.1 = 0 ∨ (eb_it w (nI b) s0 8).2.2.2.1 = z.1)))) := by
  refine eb_for 8 (fun i t => t.1 = nI i ∧ eb_MF 0 m t.2 ∧ eb_fM t.2 0 b (eb_it w (nI b) s0 i) ∧ eb_iv w (nI b) s0 i) ?_ ?_ (by decide) ⟨rfl, ⟨fun _ _ _ _ => rfl, fun _ _ => rfl, fun _ _ => rfl⟩, hs, Or.inl hf⟩
  · rintro i ⟨t1, mm⟩ hi ⟨g1, g2, g3, g4⟩
    have g1 : t1 = nI i := g1
    subst g1
    have g2 : eb_MF 0 m mm := g2
    have g3 : eb_fM mm 0 b (eb_it w (nI b) s0 i) := g3
    unfold f_X12_straight_s28
    dsimp only
    rw [if_neg (show ¬ (8 : Int32) ≤ nI i from nI_ge (b := 8) hi (by decide)), show (0 : Int32) = nI 0 from rfl, eb_isFlyingE (by decide), eb_clR, g3.2.2.2.1]
    rcases g4 with z | ⟨z, z2⟩
    · rw [eb_fly1 z, if_pos rfl, if_neg (show ¬ (1 : Int32) = nI 0 by decide)]
      refine eb_cl (eb_breathM (g := nI 0) (k := i) (by decide) hb ((eb_MF_273 g2).trans h273) hL g3 z) fun r m6 hz => eb_some ⟨nI_1 i, ⟨fun r a1 a2 a3 => (hz.1.1 r a1 a2 a3).trans (g2.1 r a1 a2 a3), fun i a => (hz.1.2.1 i a).trans (g2.2.1 i a), fun i a => (hz.1.2.2 i a).trans (g2.2.2 i a)⟩, ?_, eb_iv_s hi z⟩
      rw [eb_it_fly z]
      exact hz.2
    · rw [if_neg (eb_done0 z), if_pos (show (0 : Int32) = nI 0 from rfl)]
      refine eb_some ⟨g2, ?_⟩
      have e8 : eb_it w (nI b) s0 8 = eb_it w (nI b) s0 i := by
        rw [← eb_it_done z (8 - i), show i + (8 - i) = 8 by omega]
      rw [e8]
      exact ⟨g3, Or.inr ⟨z, z2⟩⟩
  · rintro ⟨t1, mm⟩ ⟨g1, g2, g3, g4⟩
    have g1 : t1 = nI 8 := g1
    subst g1
    unfold f_X12_straight_s28
    rw [if_pos (show (8 : Int32) ≤ nI 8 by decide)]
    exact eb_some ⟨g2, g3, g4⟩
theorem eb_start (h : eb_I m) : eb_fly (m 273 8, m 273 7, 1, 0, 0) := by
  obtain ⟨t, t1, t2, t3⟩ := h.1.1.2.1.2.2.2.2.2.2.2.1
  obtain ⟨c, c1, c2⟩ := h.1.1.2.1.2.2.2.2.2.2.1
  exact ⟨t, c, t1, t2, by omega, by rw [t3, c2]⟩
theorem eb_p_straight (p q : Int32) (_ : eb_bo q) (h : eb_I m) : eb_P eb_I (f_L_straight p q m) (f_X12_straight p q) := by
  obtain ⟨n, hn, e1, e2, e3⟩ := eb_IB h
  rcases eb_ix (p := p) (x := nI n) rfl (by omega) with hp | ⟨b, hb, rfl⟩
  · refine eb_Pk1 h (k := 1) (v := 0) ?_ ?_ (by decide)
    · unfold f_L_straight f_X11_straight
      rw [eb_needBird, e2, if_neg hp]
      rfl
    · unfold f_X12_straight
      rw [eb_bdR, eb_noBird p (show (ea_st m 272 0 0) 273 0 = nI n from e1) (by omega), eb_clR, if_neg hp, eb_throwsIf1, eb_clR, if_neg eb_ne10]
  have hp := eb_ixT hb (show n < 2 ^ 31 by omega)
  have hA := eb_A_of h
  rw [e3] at hA
  have hst := eb_start h
  obtain ⟨w, ew⟩ : ∃ w, w = m 273 := ⟨_, rfl⟩
  rw [← ew] at hA hst
  obtain ⟨Fe, eFe⟩ : ∃ Fe, Fe = eb_it w (nI b) (w 8, w 7, 1, 0, 0) 8 := ⟨_, rfl⟩
  unfold f_L_straight
  refine eb_Lw (fun u m1 => eb_E m m1 ∧ m1 273 = w ∧ u = if Fe.2.2.2.1 = 0 then -1 else if q = 0 then Fe.2.1 else Fe.2.2.2.1) ?_ ?_
  · unfold f_X11_straight
    rw [eb_needBird, e2, if_pos hp, eb_cx0]
    refine eb_cl (eb_releaseA (R := 74) (b := b) (Or.inl rfl) m) fun r m3 h3 => ?_
    dsimp only at h3
    obtain ⟨r3, f3⟩ := h3
    rw [hA.2.1, hA.1] at f3
    have hA3 : eb_A m3 w n := eb_A_DF (R := 74) (Or.inl rfl) hA ⟨fun r _ _ _ _ q => r3 r q, fun i _ _ => by rw [r3 16 (by decide)], fun i _ _ => by rw [r3 73 (by decide)]⟩
    refine eb_bind (eb_straightA q hA3 hn hb f3 hst) fun z hz => ?_
    rw [← eFe] at hz
    obtain ⟨zD, z0, z1, z2, z3, z4, z5⟩ := hz
    have hE : eb_E m z := eb_E_pt fun a i hs => by
      unfold eb_Sc at hs
      by_cases q : a = 16
      · subst q
        rw [zD.2.1 i (by omega) (by omega), r3 16 (by decide)]
      · rw [zD.1 a q (by omega) (by omega) (by omega) (by omega), r3 a (by omega)]
    have h273 : z 273 = w := by rw [zD.1 273 (by decide) (by decide) (by decide) (by decide) (by decide), r3 273 (by decide), ew]
    rw [z4, eb_bdR, z2, eb_bdR, eb_bdR]
    by_cases q1 : Fe.2.2.2.1 = 0
    · rw [if_pos q1, if_pos q1]
      exact eb_some ⟨rfl, hE, h273, rfl⟩
    · rw [if_neg q1, if_neg q1]
      by_cases q2 : q = 0
      · rw [if_pos q2, if_pos q2]
        exact eb_some ⟨rfl, hE, h273, rfl⟩
      · rw [if_neg q2, if_neg q2]
        exact eb_some ⟨rfl, hE, h273, rfl⟩
  · rintro u m1 ⟨hE, h273, hu⟩
    have k273 : (ea_st (ea_st m1 287 0 u) 272 0 0) 273 = w := by rw [eb_stA _ _ _ (by decide), eb_stA _ _ _ (by decide), h273]
    unfold f_X12_straight
    rw [eb_bdR, eb_noBird (nI b) (n := n) (by rw [k273, ew]; exact e1) (by omega), eb_clR, if_pos hp, eb_throwsIf0, eb_clR, if_pos rfl]
    refine eb_cl (eb_beginsM (j := 0) (b := b) (by decide) _) fun r m6 h6 => ?_
    dsimp only at h6
    obtain ⟨r6, r62, r63, f6⟩ := h6
    rw [k273] at f6
    have l6 : m6 273 = w := by rw [r6 273 (by decide) (by decide), k273]
    have hL : eb_LR (eb_ct m 16) w := by rw [ew]; exact h.1.2.1
    refine eb_bind (eb_straightM q (show b < 6 by omega) l6 hL (f6 0) hst) fun z hz => ?_
    rw [← eFe] at hz
    obtain ⟨zi, z⟩ := z
    obtain ⟨zM, ⟨z0, z1, z2, z3, z5⟩, zF⟩ := hz
    have zM : eb_MF 0 m6 z := zM
    have z2 : z 284 1 = Fe.2.1 := z2
    have z3 : z 284 (4 * 0 + 2) = Fe.2.2.1 := z3
    have zF : eb_fly Fe ∨ (eb_done Fe ∧ (Fe.2.2.2.1 = 0 ∨ Fe.2.2.2.1 = zi)) := zF
    have fin : z 272 0 = 0 ∧ z 287 0 = u ∧ eb_I z := by
      refine ⟨?_, ?_, eb_I_cg (eb_E_trans hE (eb_E_pt fun a i hs => ?_)) h⟩
      · rw [zM.2.1 0 (by omega), r6 272 (by decide) (by decide), eb_st]
      · rw [zM.1 287 (by decide) (by decide) (by decide), r6 287 (by decide) (by decide), eb_stA _ _ _ (by decide), eb_st]
      · unfold eb_Sc at hs
        by_cases q2 : a = 272
        · subst q2
          rw [zM.2.1 i (by omega), r6 272 (by decide) (by decide), eb_stI _ _ _ (by omega), eb_stA _ _ _ (by decide)]
        · rw [zM.1 a q2 (by omega) (by omega), r6 a (by omega) (by omega), eb_stA _ _ _ q2, eb_stA _ _ _ (by omega)]
    dsimp only
    rw [show (0 : Int32) = nI 0 from rfl, eb_isFlyingE (by decide), eb_clR, z3]
    rcases zF with zf | ⟨zd, zl⟩
    · have l0 : Fe.2.2.2.1 = 0 := by
        obtain ⟨v, c, _, _, _, e⟩ := zf
        rw [e]
      rw [if_pos l0] at hu
      rw [if_pos (eb_fly1 zf), if_neg (show ¬ (1 : Int32) = nI 0 by decide)]
      exact eb_some ⟨fin.1, fin.2.1.trans hu, fin.2.2⟩
    · rw [if_neg (eb_done0 zd), if_pos (show (0 : Int32) = nI 0 from rfl), z2, eb_bdR, eb_noColumn, eb_clR]
      obtain ⟨d0, d1 | ⟨k, hk, d2, d3, d4⟩⟩ := zd
      · rw [if_pos d1.1] at hu
        rw [if_neg d1.2.2, if_neg (show ¬ (1 : Int32) = nI 0 by decide)]
        exact eb_some ⟨fin.1, fin.2.1.trans hu, fin.2.2⟩
      · have nz : ¬ Fe.2.2.2.1 = 0 := by
          rw [d2]
          exact nI_ne0 (by omega) (by omega)
        have el : Fe.2.2.2.1 = zi := by
          rcases zl with y | y
          · exact absurd y nz
          · exact y
        rw [if_neg nz] at hu
        rw [if_pos d4, if_pos (show (0 : Int32) = nI 0 from rfl)]
        by_cases q2 : q = 0
        · rw [if_pos q2] at hu
          rw [if_pos (show q = nI 0 from q2), z2, eb_bdR]
          exact eb_some ⟨fin.1, fin.2.1.trans hu, fin.2.2⟩
        · rw [if_neg q2] at hu
          rw [if_neg (show ¬ q = nI 0 from q2)]
          exact eb_some ⟨fin.1, fin.2.1.trans (hu.trans el), fin.2.2⟩
end STRAIGHT
