section CALLB
variable {m mm : ea_M} {w : Nat → Int32}
def eb_chB (c : Nat → Bool) (n : Nat) : Int32 := eb_F (fun b a => if c b = true then a ||| (1 <<< (nI b &&& 31)) else a) 0 n
theorem eb_chB_bit : ∀ c0 c1 c2 c3 c4 c5 : Bool, ∀ n, n < 7 → ∀ b, b < 6 → ((eb_chB (fun i => [c0, c1, c2, c3, c4, c5].getD i false) n >>> (nI b &&& 31)) &&& 1 = 1) → (b < n ∧ [c0, c1, c2, c3, c4, c5].getD b false = true) := by decide +kernel
theorem eb_chs_bit {k s b : Nat} (hn : eb_b w ≤ 6) (hb : b < 6) (h : (eb_chs w k s >>> (nI b &&& 31)) &&& 1 = 1) : b < eb_b w ∧ 0 < w (50 + 6 * (w (74 + 4 * k + s)).toNatClampNeg + b) := by
  obtain ⟨cc, hcc⟩ : ∃ cc : Nat → Bool, ∀ i, cc i = decide ((w (76 + 4 * k) >>> (nI i &&& 31)) &&& 1 = 1 ∧ 0 < w (50 + 6 * (w (74 + 4 * k + s)).toNatClampNeg + i)) := ⟨_, fun _ => rfl⟩
  have e : eb_chs w k s = eb_chB (fun i => [cc 0, cc 1, cc 2, cc 3, cc 4, cc 5].getD i false) (eb_b w) := by
    unfold eb_chs eb_chB
    refine eb_F_cg fun i t hi => ?_
    have e1 : [cc 0, cc 1, cc 2, cc 3, cc 4, cc 5].getD i false = cc i := by
      obtain rfl | rfl | rfl | rfl | rfl | rfl : i = 0 ∨ i = 1 ∨ i = 2 ∨ i = 3 ∨ i = 4 ∨ i = 5 := by omega
      all_goals rfl
    simp only [e1]
    unfold eb_ch1
    by_cases q : (w (76 + 4 * k) >>> (nI i &&& 31)) &&& 1 = 1 ∧ 0 < w (50 + 6 * (w (74 + 4 * k + s)).toNatClampNeg + i)
    · rw [if_pos q, if_pos (show cc i = true by rw [hcc]; exact decide_eq_true q)]
    · rw [if_neg q, if_neg (show ¬ cc i = true by rw [hcc, decide_eq_false q]; decide)]
  rw [e] at h
  obtain ⟨h1, h2⟩ := eb_chB_bit _ _ _ _ _ _ (eb_b w) (by omega) b hb h
  refine ⟨h1, ?_⟩
  have e1 : [cc 0, cc 1, cc 2, cc 3, cc 4, cc 5].getD b false = cc b := by
    obtain rfl | rfl | rfl | rfl | rfl | rfl : b = 0 ∨ b = 1 ∨ b = 2 ∨ b = 3 ∨ b = 4 ∨ b = 5 := by omega
    all_goals rfl
  rw [e1, hcc] at h2
  exact (of_decide_eq_true h2).2
def eb_callX (k b c : Int32) (m14 : ea_M) : Option ea_O :=
  ea_g k 12 (ea_bd (m14 10 (Int32.toNatClampNeg k)) fun x16 =>
  ea_cl (f_X1_add 8 x16 b (-1) m14) fun _ m17 =>
  ea_g k 12 (ea_bd (m17 11 (Int32.toNatClampNeg k)) fun x19 =>
  ea_cl (f_X1_add 8 x19 c (-1) m17) fun _ m20 =>
  ea_bd (m20 2 6) fun x22 =>
  ea_cl (f_X0_duel b c x22 m20) fun _ m23 =>
  ea_bd (m23 73 6) fun x25 =>
  ea_bd (ea_st m23 2 6 x25) fun m26 =>
  ea_cl (f_X0_ending m26) fun r28 m27 =>
  ea_g k 12 (ea_bd (ea_st m27 13 (Int32.toNatClampNeg k) r28) fun m29 =>
  ea_bd (m29 2 5) fun x30 =>
  ea_cl (f_X6_open 14 x30 k m29) fun _ m31 =>
  ea_cl (f_X0_ending m31) fun r34 m33 =>
  ea_cl (f_X0_firstGood m33) fun r36 m35 =>
  ea_cl (f_X6_write 14 b c r34 r36 m35) fun _ m37 =>
  ea_g k 12 (ea_bd (m37 13 (Int32.toNatClampNeg k)) fun x39 =>
  some (0, x39, m37)))))
def eb_callY (k b c : Int32) (m19 : ea_M) : Option (Int32 × ea_M) :=
  ea_cl (f_X12_ofCase k 0 m19) fun r22 m21 =>
  ea_cl (f_X12_stockAt r22 b m21) fun r24 m23 =>
  ea_g r24 2180 (ea_bd (m23 273 (Int32.toNatClampNeg r24)) fun x25 =>
  ea_g r24 2180 (ea_bd (ea_st m23 273 (Int32.toNatClampNeg r24) (x25 - 1)) fun m26 =>
  ea_cl (f_X12_ofCase k 1 m26) fun r28 m27 =>
  ea_cl (f_X12_stockAt r28 c m27) fun r30 m29 =>
  ea_g r30 2180 (ea_bd (m29 273 (Int32.toNatClampNeg r30)) fun x31 =>
  ea_g r30 2180 (ea_bd (ea_st m29 273 (Int32.toNatClampNeg r30) (x31 - 1)) fun m32 =>
  ea_cl (f_X12_called b c m32) fun r34 m33 =>
  ea_cl (f_X12_caseAt k 3 m33) fun r36 m35 =>
  ea_g r36 2180 (ea_bd (ea_st m35 273 (Int32.toNatClampNeg r36) r34) fun m37 =>
  ea_cl (f_X12_tells k b c r34 m37) fun _ m38 =>
  some (r34, m38))))))
theorem eb_A_w {w1 : Nat → Int32} {n : Nat} (hn : n ≤ 6) (h : eb_A m w n) (hw : ∀ j, j < 50 ∨ 482 ≤ j → w1 j = w j) (hr : ∀ r, (2 ≤ r ∧ r < 6) ∨ (16 ≤ r ∧ r < 22) → mm r = m r) : eb_A mm w1 n := by
  obtain ⟨h1, h2, h3, h4, h5, h6, h7, h8⟩ := h
  unfold eb_A
  rw [hr 2 (by omega), hr 3 (by omega), hr 4 (by omega), hr 5 (by omega), hw 7 (by omega), hw 8 (by omega), hw 9 (by omega), hw 10 (by omega), hw 6 (by omega)]
  refine ⟨h1, h2, h3, h4, h5, fun l hl => ?_, fun b hb => ?_, eb_LR_cg (l := eb_ct m 16) (l' := eb_ct mm 16) (congrFun (hr 16 (by omega)) 0) (congrFun (hr 16 (by omega)) 1) (fun i j _ _ _ => congrFun (hr (16 + i) (by omega)) j) (fun j _ _ => congrFun (hr 21 (by omega)) j) (hw 4 (by omega)) (fun j hj _ => hw j (by omega)) h8⟩
  · rw [hw _ (by omega)]; exact h6 l hl
  · rw [hw _ (by omega), hw _ (by omega)]; exact h7 b hb
theorem eb_callA {z : ea_M} {n k b c f g s1 s2 t sz wk : Nat} {w0 : Nat → Int32} {sd : Int32} (hn : n ≤ 6) (hb : b < n) (hc : c < n) (hk : k < 12) (hf : f < 4) (hg : g < 4) (hfg : f ≠ g) (hs1 : 1 ≤ s1) (hs1' : s1 ≤ 99) (hs2 : 1 ≤ s2) (hs2' : s2 ≤ 99) (ht : t < 60) (hsz : sz ≤ 60)
    (hA : eb_A z w0 n) (hst : eb_fly (w0 8, w0 7, 1, 0, 0)) (e10 : z 10 k = nI f) (e11 : z 11 k = nI g) (e1 : z 9 (6 * f + b) = nI s1) (e2 : z 9 (6 * g + c) = nI s2) (e6 : z 2 6 = sd) (e5 : z 2 5 = nI wk) (et : z 14 1 = nI t) (ez : z 14 0 = nI sz)
    {x1 y1 : Nat} (hx1 : x1 < 9) (hy1 : y1 < 9) (ex1 : (eb_du w0 (nI b) (nI c) sd (w0 8, w0 7, 1, 0, 0) 8).2.1.2.2.2.2 = nI x1) (ey1 : (eb_du w0 (nI b) (nI c) sd (w0 8, w0 7, 1, 0, 0) 8).2.2.2.2.2.2 = nI y1) {S : Int32} (eS : (eb_du w0 (nI b) (nI c) sd (w0 8, w0 7, 1, 0, 0) 8).1 = S) :
    eb_W (eb_callX (nI k) (nI b) (nI c) z) (fun o => o.1 = 0 ∧ o.2.1 = eb_en (nI x1) (nI y1) ∧ (∀ a i, ¬ eb_W1 a i → o.2.2 a i = z a i) ∧ (∀ i j, i < 14 → o.2.2 (2 + i) j = eb_cc (eb_c2s z (6 * f + b) (nI (s1 - 1)) (6 * g + c) (nI (s2 - 1))) (eb_row (nI wk) (nI k) (nI b) (nI c) (eb_en (nI x1) (nI y1)) (eb_gf (nI x1) (nI y1))) ((t + 1) % 60) (min 60 (sz + 1)) k (eb_en (nI x1) (nI y1)) S i j) ∧ o.2.2 0 18 = z 0 18) := by
  have j12 : 6 * f + b ≠ 6 * g + c := by omega
  unfold eb_callX
  rw [eb_gN hk (by decide), eb_bdR, nI_clamp (by omega), e10, eb_addA (-1) z (by omega) e1 (x := s1 - 1) (by rw [show (-1 : Int32) = -nI 1 from rfl, eb_negN hs1, eb_mx0 (by omega), show min 99 (s1 - 1) = s1 - 1 by omega]), eb_clR, eb_gN hk (by decide), eb_bdR, eb_stA _ _ _ (by decide), e11, eb_addA (-1) _ (by omega) (s := s2) (by rw [eb_stI _ _ _ j12.symm]; exact e2) (x := s2 - 1) (by rw [show (-1 : Int32) = -nI 1 from rfl, eb_negN hs2, eb_mx0 (by omega), show min 99 (s2 - 1) = s2 - 1 by omega]), eb_clR]
  obtain ⟨m20, e20⟩ : ∃ m20, m20 = ea_st (ea_st z 9 (6 * f + b) (nI (s1 - 1))) 9 (6 * g + c) (nI (s2 - 1)) := ⟨_, rfl⟩
  rw [← e20]
  have r20 : ∀ r, r ≠ 9 → m20 r = z r := fun r hr => by rw [e20, eb_stA _ _ _ hr, eb_stA _ _ _ hr]
  rw [r20 2 (by decide), e6, eb_bdR]
  have hA20 : eb_A m20 w0 n := eb_A_w hn hA (fun _ _ => rfl) (fun r hr => r20 r (by omega))
  refine eb_cl (eb_duelA sd hA20 hn hb hc hst) fun r m23 hz => ?_
  dsimp only at hz
  obtain ⟨z1, z2, z3, z4⟩ := hz
  have k23 : ∀ r, r < 16 → r ≠ 9 → m23 r = z r := fun r q1 q2 => by rw [z1.1 r (by omega) (by omega) (by omega) (by omega) (by omega) (by omega), r20 r q2]
  have k9 : m23 9 = m20 9 := z1.1 9 (by decide) (by decide) (by decide) (by decide) (by decide) (by decide)
  have g74 : m23 74 5 = nI x1 := z3.2.2.2.2.2.trans ex1
  have g75 : m23 75 5 = nI y1 := z4.2.2.2.2.2.trans ey1
  rw [z2, eS, eb_bdR, eb_bdR, eb_endingA (m := ea_st m23 2 6 S) hx1 hy1 (by rw [eb_stA _ _ _ (by decide)]; exact g74) (by rw [eb_stA _ _ _ (by decide)]; exact g75), eb_clR]
  obtain ⟨E, eE⟩ : ∃ E, E = eb_en (nI x1) (nI y1) := ⟨_, rfl⟩
  rw [← eE, eb_gN hk (by decide), eb_bdR, eb_stA _ _ _ (by decide), eb_stI _ _ _ (by decide), k23 2 (by decide) (by decide), e5, eb_bdR, eb_openJ (m := ea_st (ea_st m23 2 6 S) 13 k E) (nI wk) (nI k) ht hsz (by rw [eb_stA _ _ _ (by decide), eb_stA _ _ _ (by decide), k23 14 (by decide) (by decide)]; exact et) (by rw [eb_stA _ _ _ (by decide), eb_stA _ _ _ (by decide), k23 14 (by decide) (by decide)]; exact ez), eb_clR]
  obtain ⟨m31, e31⟩ : ∃ m31, m31 = ea_st (ea_st (ea_st (ea_st (ea_st (ea_st m23 2 6 S) 13 k E) 14 1 (nI ((t + 1) % 60))) 14 0 (nI (min 60 (sz + 1)))) 15 ((t + 1) % 60 * 6 + 0) (nI wk)) 15 ((t + 1) % 60 * 6 + 1) (nI k) := ⟨_, rfl⟩
  rw [← e31]
  have h31 : ∀ r, r ≠ 2 → r ≠ 13 → r ≠ 14 → r ≠ 15 → m31 r = m23 r := fun r q1 q2 q3 q4 => by rw [e31, eb_stA _ _ _ q4, eb_stA _ _ _ q4, eb_stA _ _ _ q3, eb_stA _ _ _ q3, eb_stA _ _ _ q2, eb_stA _ _ _ q1]
  have a74 : m31 74 5 = nI x1 := by rw [h31 74 (by decide) (by decide) (by decide) (by decide)]; exact g74
  have a75 : m31 75 5 = nI y1 := by rw [h31 75 (by decide) (by decide) (by decide) (by decide)]; exact g75
  have a14 : m31 14 1 = nI ((t + 1) % 60) := by rw [e31, eb_stA _ _ _ (by decide), eb_stA _ _ _ (by decide), eb_stI _ _ _ (by decide), eb_st]
  have gf : (if nI x1 = 0 ∨ nI y1 = 0 then ea_max (nI x1) (nI y1) else ea_min (nI x1) (nI y1)) = eb_gf (nI x1) (nI y1) := eb_gf8 x1 hx1 y1 hy1
  rw [eb_endingA hx1 hy1 a74 a75, eb_clR, ← eE, eb_firstGoodA a74 a75, gf, eb_clR, eb_writeJ (nI b) (nI c) E (eb_gf (nI x1) (nI y1)) (by omega) a14, eb_clR, eb_gN hk (by decide), eb_bdR]
  obtain ⟨gg, egg⟩ : ∃ gg, gg = eb_gf (nI x1) (nI y1) := ⟨_, rfl⟩
  rw [← egg]
  obtain ⟨m37, e37⟩ : ∃ m37, m37 = ea_st (ea_st (ea_st (ea_st m31 15 ((t + 1) % 60 * 6 + 2) (nI b)) 15 ((t + 1) % 60 * 6 + 3) (nI c)) 15 ((t + 1) % 60 * 6 + 4) E) 15 ((t + 1) % 60 * 6 + 5) gg := ⟨_, rfl⟩
  rw [← e37]
  have h37 : ∀ r, r ≠ 15 → m37 r = m31 r := fun r q => by rw [e37, eb_stA _ _ _ q, eb_stA _ _ _ q, eb_stA _ _ _ q, eb_stA _ _ _ q]
  have b13 : m31 13 = ea_st (ea_st m23 2 6 S) 13 k E 13 := by rw [e31, eb_stA _ _ _ (by decide), eb_stA _ _ _ (by decide), eb_stA _ _ _ (by decide), eb_stA _ _ _ (by decide)]
  refine eb_some ⟨rfl, ?_, fun a i hw => ?_, fun i j hi => ?_, ?_⟩
  · show m37 13 k = E
    rw [h37 13 (by decide), b13, eb_st]
  · show m37 a i = z a i
    unfold eb_W1 at hw
    by_cases q : a = 16
    · subst q
      rw [h37 16 (by decide), h31 16 (by decide) (by decide) (by decide) (by decide), z1.2 i (by omega) (by omega), r20 16 (by decide)]
    · rw [h37 a (by omega), h31 a (by omega) (by omega) (by omega) (by omega), z1.1 a q (by omega) (by omega) (by omega) (by omega) (by omega), r20 a (by omega)]
  · show m37 (2 + i) j = _
    unfold eb_cc
    by_cases q13 : i = 13
    · subst q13
      rw [show 2 + 13 = 15 from rfl]
      by_cases qj : (t + 1) % 60 * 6 ≤ j ∧ j < (t + 1) % 60 * 6 + 6
      · rw [if_pos ⟨rfl, qj⟩]
        obtain ⟨x, hx, rfl⟩ : ∃ x, x < 6 ∧ j = (t + 1) % 60 * 6 + x := ⟨j - (t + 1) % 60 * 6, by omega, by omega⟩
        rw [Nat.add_sub_cancel_left]
        obtain rfl | rfl | rfl | rfl | rfl | rfl : x = 0 ∨ x = 1 ∨ x = 2 ∨ x = 3 ∨ x = 4 ∨ x = 5 := by omega
        · rw [e37, eb_stI _ _ _ (by omega), eb_stI _ _ _ (by omega), eb_stI _ _ _ (by omega), eb_stI _ _ _ (by omega), e31, eb_stI _ _ _ (by omega), eb_st]; rfl
        · rw [e37, eb_stI _ _ _ (by omega), eb_stI _ _ _ (by omega), eb_stI _ _ _ (by omega), eb_stI _ _ _ (by omega), e31, eb_st]; rfl
        · rw [e37, eb_stI _ _ _ (by omega), eb_stI _ _ _ (by omega), eb_stI _ _ _ (by omega), eb_st]; rfl
        · rw [e37, eb_stI _ _ _ (by omega), eb_stI _ _ _ (by omega), eb_st]; rfl
        · rw [e37, eb_stI _ _ _ (by omega), eb_st]; rfl
        · rw [e37, eb_st]; rfl
      · rw [if_neg (fun y => qj y.2), if_neg (by omega), if_neg (by omega), if_neg (by omega), if_neg (by omega), e37, eb_stI _ _ _ (by omega), eb_stI _ _ _ (by omega), eb_stI _ _ _ (by omega), eb_stI _ _ _ (by omega), e31, eb_stI _ _ _ (by omega), eb_stI _ _ _ (by omega), eb_stA _ _ _ (by decide), eb_stA _ _ _ (by decide), eb_stA _ _ _ (by decide), eb_stA _ _ _ (by decide), k23 15 (by decide) (by decide), eb_c2sN _ _ (by decide)]
    · rw [if_neg (fun y => q13 y.1), h37 _ (by omega)]
      by_cases q12 : i = 12
      · subst q12
        rw [show 2 + 12 = 14 from rfl]
        by_cases j0 : j = 0
        · subst j0
          rw [if_pos ⟨rfl, rfl⟩, e31, eb_stA _ _ _ (by decide), eb_stA _ _ _ (by decide), eb_st]
        · rw [if_neg (fun y => j0 y.2)]
          by_cases j1 : j = 1
          · subst j1
            rw [if_pos ⟨rfl, rfl⟩, a14]
          · rw [if_neg (fun y => j1 y.2), if_neg (by omega), if_neg (by omega), e31, eb_stA _ _ _ (by decide), eb_stA _ _ _ (by decide), eb_stI _ _ _ j0, eb_stI _ _ _ j1, eb_stA _ _ _ (by decide), eb_stA _ _ _ (by decide), k23 14 (by decide) (by decide), eb_c2sN _ _ (by decide)]
      · rw [if_neg (fun y => q12 y.1), if_neg (fun y => q12 y.1)]
        by_cases q11 : i = 11
        · subst q11
          rw [show 2 + 11 = 13 from rfl, b13]
          by_cases jk : j = k
          · subst jk
            rw [if_pos ⟨rfl, rfl⟩, eb_st]
          · rw [if_neg (fun y => jk y.2), if_neg (by omega), eb_stI _ _ _ jk, eb_stA _ _ _ (by decide), k23 13 (by decide) (by decide), eb_c2sN _ _ (by decide)]
        · rw [if_neg (fun y => q11 y.1)]
          by_cases q0 : i = 0
          · subst q0
            rw [show 2 + 0 = 2 from rfl, e31, eb_stA _ _ _ (by decide), eb_stA _ _ _ (by decide), eb_stA _ _ _ (by decide), eb_stA _ _ _ (by decide), eb_stA _ _ _ (by decide)]
            by_cases j6 : j = 6
            · subst j6
              rw [if_pos ⟨rfl, rfl⟩, eb_st]
            · rw [if_neg (fun y => j6 y.2), eb_stI _ _ _ j6, k23 2 (by decide) (by decide), eb_c2sN _ _ (by decide)]
          · rw [if_neg (fun y => q0 y.1), h31 _ (by omega) (by omega) (by omega) (by omega)]
            by_cases q7 : i = 7
            · subst q7
              rw [show 2 + 7 = 9 from rfl, k9, e20]
              exact eb_c2sE z z _ _ _ _ 7 j rfl
            · rw [k23 _ (by omega) (by omega), eb_c2sN _ _ q7]
  · show m37 0 18 = z 0 18
    rw [h37 0 (by decide), h31 0 (by decide) (by decide) (by decide) (by decide), k23 0 (by decide) (by decide)]
end CALLB
