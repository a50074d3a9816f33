section CALLED
variable {m mm : ea_M} {w : Nat → Int32}
/-- the reference's rows that a call leaves alone -/
def eb_MG (m m' : ea_M) : Prop := (∀ r, r ≠ 272 → r ≠ 273 → r ≠ 280 → r ≠ 284 → r ≠ 285 → m' r = m r) ∧ ∀ i, i < 18 ∨ 21 < i → m' 272 i = m 272 i
theorem eb_MG_trans {m1 m2 m3 : ea_M} (h1 : eb_MG m1 m2) (h2 : eb_MG m2 m3) : eb_MG m1 m3 := ⟨fun r a b c d e => (h2.1 r a b c d e).trans (h1.1 r a b c d e), fun i a => (h2.2 i a).trans (h1.2 i a)⟩
theorem eb_LR_ws {l : Nat → Nat → Int32} (h : eb_LR l w) (x : Int32) : eb_LR l (eb_ws w 12 x) := eb_LR_cg rfl rfl (fun _ _ _ _ _ => rfl) (fun _ _ _ => rfl) (eb_wsN _ _ (by decide)) (fun j hj _ => eb_wsN _ _ (by omega)) h
theorem eb_ws2 (w : Nat → Int32) (k : Nat) (x y : Int32) : eb_ws (eb_ws w k x) k y = eb_ws w k y := by
  funext j
  unfold eb_ws
  by_cases h : j = k
  · rw [if_pos h, if_pos h]
  · rw [if_neg h, if_neg h, if_neg h]
theorem eb_ws_id (w : Nat → Int32) (k : Nat) : eb_ws w k (w k) = w := by
  funext j
  unfold eb_ws
  by_cases h : j = k
  · rw [if_pos h, h]
  · rw [if_neg h]
/-- a turn of the reference -/
theorem eb_turnM {l : Nat → Nat → Int32} {j b k : Nat} {sd : Int32} {s : eb_Fl} {s14 : Int32 × ea_M} (e14 : s14.1 = nI k) (hk : k < 8) (hj : j < 2) (hb : b < 6) (h273 : mm 273 = eb_ws w 12 sd) (hL : eb_LR l w) (hs : eb_fM mm j b s) (ho : eb_ok s) :
    ∃ mm', f_X12_called_s23 s14 (nI j, mm) = some (.inl (nI (j + 1), mm')) ∧ mm' 273 = eb_ws w 12 (eb_tn w (nI b) k (sd, s)).1 ∧ eb_fM mm' j b (eb_tn w (nI b) k (sd, s)).2 ∧ eb_MG mm mm' ∧ mm' 285 = mm 285 ∧ ∀ i, ¬ (4 * j ≤ i ∧ i < 4 * j + 4) → mm' 284 i = mm 284 i := by
  unfold f_X12_called_s23 f_X12_called_j52
  dsimp only
  rw [if_neg (show ¬ (2 : Int32) ≤ nI j from nI_ge (b := 2) hj (by decide)), eb_isFlyingE hj, eb_clR, hs.2.2.2.1]
  rcases ho with z | z
  · rw [eb_fly1 z, if_pos rfl, if_neg eb_ne10, eb_drawnM, eb_clR, Int32.add_sub_cancel, e14]
    have s12 : mm 273 12 = sd := by rw [h273, eb_wsT]
    have e : eb_tn w (nI b) k (sd, s) = (eb_gs sd, eb_dr1 w (nI b) k (eb_gv (eb_gs sd)) s) := if_pos (eb_fly1 z)
    rw [s12, e]
    have w2 : ea_st mm 273 12 (eb_gs sd) 273 = eb_ws w 12 (eb_gs sd) := by rw [eb_stw, h273, eb_ws2]
    obtain ⟨y, ey, hy⟩ := eb_breathM (m := ea_st mm 273 12 (eb_gs sd)) (k := k) (g := eb_gv (eb_gs sd)) hj hb w2 (eb_LR_ws hL _) (by unfold eb_fM; rw [eb_stA _ _ _ (by decide), eb_stA _ _ _ (by decide)]; exact hs) z
    rw [ey]
    obtain ⟨hM, hF⟩ := hy
    rw [eb_dr1_cg (eb_ws_rel w _) (eb_lv_of hL) hb z] at hF
    refine ⟨y.2, ?_, ?_, hF, ⟨fun r q1 q2 q3 q4 _ => ?_, fun i hi => ?_⟩, ?_, fun i hi => ?_⟩
    · show some (Sum.inl (nI j + 1, y.2)) = _
      rw [nI_1]
    · rw [eb_MF_273 hM, w2]
    · rw [hM.1 r q1 q3 q4, eb_stA _ _ _ q2]
    · rw [hM.2.1 i hi, eb_stA _ _ _ (by decide)]
    · rw [hM.1 285 (by decide) (by decide) (by decide), eb_stA _ _ _ (by decide)]
    · rw [hM.2.2 i hi, eb_stA _ _ _ (by decide)]
  · have e : eb_tn w (nI b) k (sd, s) = (sd, s) := if_neg (eb_done0 z)
    rw [if_neg (eb_done0 z), if_pos rfl, e]
    exact ⟨mm, by rw [nI_1], h273, hs, ⟨fun _ _ _ _ _ _ => rfl, fun _ _ => rfl⟩, rfl, fun _ _ => rfl⟩
/-- how a duel ends -/
def eb_en (a b : Int32) : Int32 := if a = 0 ∧ b = 0 then 4 else if a = b then 3 else if b = 0 ∨ (0 < a ∧ a < b) then 1 else 2
theorem eb_en8 : ∀ a, a < 9 → ∀ b, b < 9 → (if nI a = nI b then (if nI a = 0 then (4 : Int32) else 3) else if (if nI a = 0 ∨ nI b = 0 then ea_max (nI a) (nI b) else ea_min (nI a) (nI b)) = nI a then 1 else 2) = eb_en (nI a) (nI b) := by decide +kernel
theorem eb_gf8 : ∀ a, a < 9 → ∀ b, b < 9 → (if nI a = 0 ∨ nI b = 0 then ea_max (nI a) (nI b) else ea_min (nI a) (nI b)) = (if nI a = 0 then nI b else if nI b = 0 then nI a else ea_min (nI a) (nI b)) := by decide +kernel
/-- the first good breath -/
def eb_gf (a b : Int32) : Int32 := if a = 0 then b else if b = 0 then a else ea_min a b
theorem eb_ok_gd {s : eb_Fl} (h : eb_ok s) : ∃ a, a < 9 ∧ s.2.2.2.2 = nI a := by
  rcases h with ⟨v, c, _, _, _, rfl⟩ | ⟨_, ⟨_, z, _⟩ | ⟨k, hk, _, z | z, _⟩⟩
  · exact ⟨0, by decide, rfl⟩
  · exact ⟨0, by decide, z⟩
  · exact ⟨k + 1, by omega, z⟩
  · exact ⟨0, by decide, z⟩
theorem eb_firstGoodA {a b : Int32} (h1 : m 74 5 = a) (h2 : m 75 5 = b) : f_X0_firstGood m = some (if a = 0 ∨ b = 0 then ea_max a b else ea_min a b, m) := by
  unfold f_X0_firstGood f_X0_firstGood_j20
  rw [h1, h2, eb_bdR]
  by_cases q1 : a = 0
  · rw [if_pos q1, if_pos (Or.inl q1)]; rfl
  · rw [if_neg q1, eb_bdR]
    by_cases q2 : b = 0
    · rw [if_pos q2, if_pos (Or.inr q2)]; rfl
    · rw [if_neg q2, if_neg (fun z => z.elim q1 q2)]; rfl
theorem eb_endingA {a b : Nat} (ha : a < 9) (hb : b < 9) (h1 : m 74 5 = nI a) (h2 : m 75 5 = nI b) : f_X0_ending m = some (eb_en (nI a) (nI b), m) := by
  rw [← eb_en8 a ha b hb]
  unfold f_X0_ending
  rw [eb_firstGoodA h1 h2, h1, h2, eb_bdR, eb_bdR, eb_bdR, eb_clR, h1, eb_bdR]
  by_cases q1 : nI a = nI b
  · rw [if_pos q1, if_pos q1]
    by_cases q2 : nI a = 0
    · rw [if_pos q2, if_pos q2]
    · rw [if_neg q2, if_neg q2]
  · rw [if_neg q1, if_neg q1]
    by_cases q3 : (if nI a = 0 ∨ nI b = 0 then ea_max (nI a) (nI b) else ea_min (nI a) (nI b)) = nI a
    · rw [if_pos q3, if_pos q3]
    · rw [if_neg q3, if_neg q3]
theorem eb_goodInE {j : Nat} (hj : j < 2) (m : ea_M) : f_X12_goodIn (nI j) m = some (m 284 (4 * j + 3), m) := by
  unfold f_X12_goodIn
  rw [eb_ixs j 3 3 rfl, eb_bdR, eb_gN (by omega) (by decide), eb_bdR, nI_clamp (by omega)]
theorem eb_calledM {l : Nat → Nat → Int32} {b c : Nat} {sd : Int32} (hb : b < 6) (hc : c < 6) (h273 : m 273 = eb_ws w 12 sd) (hL : eb_LR l w) (hst : eb_fly (w 8, w 7, 1, 0, 0)) : eb_W (f_X12_called (nI b) (nI c) m) (fun z => z.1 = eb_en (eb_du w (nI b) (nI c) sd (w 8, w 7, 1, 0, 0) 8).2.1.2.2.2.2 (eb_du w (nI b) (nI c) sd (w 8, w 7, 1, 0, 0) 8).2.2.2.2.2.2 ∧ eb_MG m z.2 ∧ z.2 273 = eb_ws w 12 (eb_du w (nI b) (nI c) sd (w 8, w 7, 1, 0, 0) 8).1 ∧ z.2 284 3 = (eb_du w (nI b) (nI c) sd (w 8, w 7, 1, 0, 0) 8).2.1.2.2.2.2 ∧ z.2 284 7 = (eb_du w (nI b) (nI c) sd (w 8, w 7, 1, 0, 0) 8).2.2.2.2.2.2) := by
  unfold f_X12_called
  refine eb_cl (eb_beginsM (j := 0) (b := b) (by decide) m) fun r1 m1 h1 => eb_cl (eb_beginsM (j := 1) (b := c) (by decide) m1) fun r3 m3 h3 => ?_
  dsimp only at h1 h3
  obtain ⟨a1, a2, a3, a4⟩ := h1
  obtain ⟨b1, b2, b3, b4⟩ := h3
  have w1 : m1 273 = eb_ws w 12 sd := by rw [a1 273 (by decide) (by decide), h273]
  have w3 : m3 273 = eb_ws w 12 sd := by rw [b1 273 (by decide) (by decide), w1]
  rw [w1, eb_wsN _ _ (by decide), eb_wsN _ _ (by decide)] at b4
  rw [h273, eb_wsN _ _ (by decide), eb_wsN _ _ (by decide)] at a4
  have f0 : eb_fM m3 0 b (w 8, w 7, 1, 0, 0) := by
    obtain ⟨c0, c1, c2, c3, c4⟩ := a4 0
    exact ⟨(b2 0 (by decide)).trans c0, (b3 _ (by omega)).trans c1, (b3 _ (by omega)).trans c2, (b3 _ (by omega)).trans c3, (b3 _ (by omega)).trans c4⟩
  have mg3 : eb_MG m m3 := ⟨fun r _ _ _ q4 q5 => by rw [b1 r q4 q5, a1 r q4 q5], fun i _ => by rw [b1 272 (by decide) (by decide), a1 272 (by decide) (by decide)]⟩
  refine eb_bind (eb_for (Q := fun z => eb_MG m z ∧ z 273 = eb_ws w 12 (eb_du w (nI b) (nI c) sd (w 8, w 7, 1, 0, 0) 8).1 ∧ eb_fM z 0 b (eb_du w (nI b) (nI c) sd (w 8, w 7, 1, 0, 0) 8).2.1 ∧ eb_fM z 1 c (eb_du w (nI b) (nI c) sd (w 8, w 7, 1, 0, 0) 8).2.2) 8 (fun k t => t.1 = nI k ∧ eb_MG m t.2 ∧ t.2 273 = eb_ws w 12 (eb_du w (nI b) (nI c) sd (w 8, w 7, 1, 0, 0) k).1 ∧ eb_fM t.2 0 b (eb_du w (nI b) (nI c) sd (w 8, w 7, 1, 0, 0) k).2.1 ∧ eb_fM t.2 1 c (eb_du w (nI b) (nI c) sd (w 8, w 7, 1, 0, 0) k).2.2) ?_ ?_ (by decide) ⟨rfl, mg3, w3, f0, b4 0⟩) fun z hz => ?_
  · rintro k ⟨t1, mm⟩ hk ⟨g1, d1, d2, d3, d4⟩
    have g1 : t1 = nI k := g1
    subst g1
    have d1 : eb_MG m mm := d1
    have d2 : mm 273 = eb_ws w 12 (eb_du w (nI b) (nI c) sd (w 8, w 7, 1, 0, 0) k).1 := d2
    have d3 : eb_fM mm 0 b (eb_du w (nI b) (nI c) sd (w 8, w 7, 1, 0, 0) k).2.1 := d3
    have d4 : eb_fM mm 1 c (eb_du w (nI b) (nI c) sd (w 8, w 7, 1, 0, 0) k).2.2 := d4
    obtain ⟨o1, o2⟩ := eb_du_ok (w := w) (b := nI b) (c := nI c) (sd := sd) hst k (by omega)
    unfold f_X12_called_s14
    dsimp only
    rw [if_neg (show ¬ (8 : Int32) ≤ nI k from nI_ge (b := 8) hk (by decide))]
    obtain ⟨m5, p1, p2, p3, p4, p5, p6⟩ := eb_turnM (s14 := (nI k, mm)) rfl hk (j := 0) (by decide) hb d2 hL d3 o1
    have d4' : eb_fM m5 1 c (eb_du w (nI b) (nI c) sd (w 8, w 7, 1, 0, 0) k).2.2 := by
      obtain ⟨c0, c1, c2, c3, c4⟩ := d4
      exact ⟨by rw [p5]; exact c0, (p6 _ (by omega)).trans c1, (p6 _ (by omega)).trans c2, (p6 _ (by omega)).trans c3, (p6 _ (by omega)).trans c4⟩
    obtain ⟨m6, q1, q2, q3, q4, q5, q6⟩ := eb_turnM (s14 := (nI k, mm)) rfl hk (j := 1) (by decide) hc p2 hL d4' o2
    have q7 : f_X12_called_s23 (nI k, mm) (nI 2, m6) = some (.inr m6) := by
      unfold f_X12_called_s23
      rw [if_pos (show (2 : Int32) ≤ nI 2 by decide)]
    have p1 : f_X12_called_s23 (nI k, mm) (0, mm) = some (.inl (nI 1, m5)) := p1
    have q1 : f_X12_called_s23 (nI k, mm) (nI 1, m5) = some (.inl (nI 2, m6)) := q1
    rw [show (ea_fuel : Nat) = 99997 + 1 + 1 + 1 from rfl, eb_loop_inl p1, eb_loop_inl q1, eb_loop_inr q7, eb_obR]
    refine eb_some ⟨nI_1 k, eb_MG_trans d1 (eb_MG_trans p4 q4), q2, ?_, q3⟩
    obtain ⟨c0, c1, c2, c3, c4⟩ := p3
    exact ⟨by show m6 285 0 = _; rw [q5]; exact c0, (q6 _ (by omega)).trans c1, (q6 _ (by omega)).trans c2, (q6 _ (by omega)).trans c3, (q6 _ (by omega)).trans c4⟩
  · rintro ⟨t1, mm⟩ ⟨g1, g2⟩
    have g1 : t1 = nI 8 := g1
    subst g1
    unfold f_X12_called_s14
    rw [if_pos (show (8 : Int32) ≤ nI 8 by decide)]
    exact eb_some g2
  · obtain ⟨z1, z2, z3, z4⟩ := hz
    obtain ⟨o1, o2⟩ := eb_du_ok (w := w) (b := nI b) (c := nI c) (sd := sd) hst 8 (by omega)
    obtain ⟨x, hx, ex⟩ := eb_ok_gd o1
    obtain ⟨y, hy, ey⟩ := eb_ok_gd o2
    have z35 : z 284 3 = nI x := z3.2.2.2.2.trans ex
    have z45 : z 284 7 = nI y := z4.2.2.2.2.trans ey
    rw [show f_X12_goodIn 0 z = f_X12_goodIn (nI 0) z from rfl, eb_goodInE (by decide), eb_clR, show f_X12_goodIn 1 z = f_X12_goodIn (nI 1) z from rfl, eb_goodInE (by decide), eb_clR, show z 284 (4 * 0 + 3) = nI x from z35, show z 284 (4 * 1 + 3) = nI y from z45, ex, ey]
    unfold f_X12_called_j88 f_X12_called_j111 eb_en
    by_cases q1 : nI x = 0
    · rw [if_pos q1]
      by_cases q2 : nI y = 0
      · rw [if_pos q2, if_pos ⟨q1, q2⟩]
        exact eb_some ⟨rfl, z1, z2, z35, z45⟩
      · rw [if_neg q2, if_neg (show ¬ (nI x = 0 ∧ nI y = 0) from fun z => q2 z.2), if_neg (show ¬ nI x = nI y from fun z => q2 (z.symm.trans q1)), if_neg q2, if_pos (show nI x ≤ 0 by rw [q1]; decide), if_neg (show ¬ nI x = nI y from fun z => q2 (z.symm.trans q1)), if_neg (show ¬ (nI y = 0 ∨ (0 < nI x ∧ nI x < nI y)) from fun z => z.elim q2 (fun u => absurd u.1 (by rw [q1]; decide)))]
        exact eb_some ⟨rfl, z1, z2, z35, z45⟩
    · rw [if_neg q1, if_neg (show ¬ (nI x = 0 ∧ nI y = 0) from fun z => q1 z.1)]
      by_cases q3 : nI x = nI y
      · rw [if_pos q3, if_pos q3]
        exact eb_some ⟨rfl, z1, z2, z35, z45⟩
      · rw [if_neg q3, if_neg q3]
        by_cases q2 : nI y = 0
        · rw [if_pos q2, if_pos (Or.inl q2)]
          exact eb_some ⟨rfl, z1, z2, z35, z45⟩
        · have hx0 : x ≠ 0 := fun z => q1 (by rw [z]; rfl)
          have q4 : ¬ nI x ≤ 0 := nI_nle (by omega) (by omega)
          rw [if_neg q2, if_neg q4]
          by_cases q5 : nI y ≤ nI x
          · rw [if_pos q5, if_neg (show ¬ (nI y = 0 ∨ (0 < nI x ∧ nI x < nI y)) from fun z => z.elim q2 (fun u => absurd u.2 (Int32.not_lt.mpr q5)))]
            exact eb_some ⟨rfl, z1, z2, z35, z45⟩
          · rw [if_neg q5, if_pos (show nI y = 0 ∨ (0 < nI x ∧ nI x < nI y) from Or.inr ⟨Int32.not_le.mp q4, Int32.not_le.mp q5⟩)]
            exact eb_some ⟨rfl, z1, z2, z35, z45⟩
end CALLED
