section DUEL
variable {m mm : ea_M} {w : Nat → Int32}
def eb_gs (x : Int32) : Int32 := 1103515245 * x + 12345
def eb_gv (x : Int32) : Int32 := ((x >>> ((16 : Int32) &&& 31)) &&& 32767) - ((x >>> ((16 : Int32) &&& 31)) &&& 32767) / 3 * 3 - 1
theorem eb_32767 : ∀ i, i < 32 → (32767 : BitVec 32).getLsbD i = decide (i < 15) := by decide +kernel
theorem eb_sh16 (x : Int32) : ((Int32.toUInt32 x >>> (Int32.toUInt32 16 &&& Int32.toUInt32 31)).toInt32) &&& 32767 = (x >>> ((16 : Int32) &&& 31)) &&& 32767 := by
  apply Int32.toBitVec_inj.mp
  show x.toBitVec >>> ((Int32.toUInt32 16 &&& Int32.toUInt32 31).toBitVec % 32).toNat &&& 32767 = x.toBitVec.sshiftRight (((16 : Int32) &&& 31).toBitVec.smod 32).toNat &&& 32767
  have h1 : ((Int32.toUInt32 16 &&& Int32.toUInt32 31).toBitVec % 32).toNat = 16 := by decide
  have h2 : (((16 : Int32) &&& 31).toBitVec.smod 32).toNat = 16 := by decide
  rw [h1, h2]
  apply BitVec.eq_of_getLsbD_eq
  intro i hi
  rw [BitVec.getLsbD_and, BitVec.getLsbD_and, eb_32767 i hi]
  by_cases h8 : i < 15
  · rw [BitVec.getLsbD_ushiftRight, BitVec.getLsbD_sshiftRight, if_pos (by omega), decide_eq_false (show ¬ 32 ≤ i by omega), Bool.not_false, Bool.true_and]
  · rw [decide_eq_false h8, Bool.and_false, Bool.and_false]
theorem eb_gustA (m : ea_M) : f_X0_gust m = some (eb_gv (eb_gs (m 73 6)), ea_st m 73 6 (eb_gs (m 73 6))) := by
  unfold f_X0_gust
  rw [eb_bdR, eb_bdR, eb_bdR, eb_st, eb_bdR, eb_sh16, eb_bdR, eb_bdR]
  rfl
theorem eb_drawnM (m : ea_M) : f_X12_drawn 3 m = some (eb_gv (eb_gs (m 273 12)) + 1, ea_st m 273 12 (eb_gs (m 273 12))) := by
  unfold f_X12_drawn
  rw [eb_bdR, eb_bdR, eb_bdR, eb_st, eb_bdR, eb_bdR]
  unfold ea_gn
  rw [if_neg (by decide), eb_bdR]
  unfold eb_gv
  rw [Int32.sub_add_cancel]
  rfl
theorem eb_ws_rel (w : Nat → Int32) (x : Int32) : ∀ j, eb_rel j → eb_ws w 12 x j = w j := fun j hj => eb_wsN _ _ (by have := eb_rel_hi hj; omega)
theorem eb_dr1_cg {w' : Nat → Int32} (hw : ∀ j, eb_rel j → w' j = w j) (hl : eb_lv w) {b k : Nat} (hb : b < 6) {g : Int32} {s : eb_Fl} (hs : eb_fly s) : eb_dr1 w' (nI b) k g s = eb_dr1 w (nI b) k g s := by
  obtain ⟨v, c, h1, h2, h3, rfl⟩ := hs
  unfold eb_dr1
  dsimp only
  rw [eb_sk_cg hw hl hb, eb_cr_cg hw hl hb (show v < 13 by omega), eb_dr_cg hw hb, hw 9 (by unfold eb_rel; omega), hw 10 (by unfold eb_rel; omega)]
/-- one feather's turn in breath k -/
noncomputable def eb_tn (w : Nat → Int32) (b : Int32) (k : Nat) (t : Int32 × eb_Fl) : Int32 × eb_Fl := if t.2.2.2.1 = 1 then (eb_gs t.1, eb_dr1 w b k (eb_gv (eb_gs t.1)) t.2) else t
def eb_ok (s : eb_Fl) : Prop := eb_fly s ∨ eb_done s
theorem eb_tn_ok {b : Int32} {k : Nat} (hk : k < 8) {t : Int32 × eb_Fl} (h : eb_ok t.2) : eb_ok (eb_tn w b k t).2 := by
  unfold eb_tn
  rcases h with z | z
  · rw [if_pos (eb_fly1 z)]
    exact eb_dr1_ok hk z
  · rw [if_neg (eb_done0 z)]
    exact Or.inr z
/-- the duel after k breaths: seed, one, two -/
noncomputable def eb_du (w : Nat → Int32) (b c : Int32) (sd : Int32) (s0 : eb_Fl) : Nat → Int32 × eb_Fl × eb_Fl
  | 0 => (sd, s0, s0)
  | k + 1 => ((eb_tn w c k ((eb_tn w b k ((eb_du w b c sd s0 k).1, (eb_du w b c sd s0 k).2.1)).1, (eb_du w b c sd s0 k).2.2)).1, (eb_tn w b k ((eb_du w b c sd s0 k).1, (eb_du w b c sd s0 k).2.1)).2, (eb_tn w c k ((eb_tn w b k ((eb_du w b c sd s0 k).1, (eb_du w b c sd s0 k).2.1)).1, (eb_du w b c sd s0 k).2.2)).2)
theorem eb_du_ok {b c sd : Int32} {s0 : eb_Fl} (h : eb_fly s0) (k : Nat) : k ≤ 8 → eb_ok (eb_du w b c sd s0 k).2.1 ∧ eb_ok (eb_du w b c sd s0 k).2.2 := by
  induction k with
  | zero => intro _; exact ⟨Or.inl h, Or.inl h⟩
  | succ k ih =>
    intro hk
    obtain ⟨i1, i2⟩ := ih (by omega)
    exact ⟨eb_tn_ok (by omega) i1, eb_tn_ok (by omega) i2⟩
/-- the class's rows that a duel leaves alone -/
def eb_DG (m m' : ea_M) : Prop := (∀ r, r ≠ 16 → r ≠ 22 → r ≠ 23 → r ≠ 73 → r ≠ 74 → r ≠ 75 → m' r = m r) ∧ ∀ i, i ≠ 2 → i ≠ 3 → m' 16 i = m 16 i
theorem eb_DG_trans {m1 m2 m3 : ea_M} (h1 : eb_DG m1 m2) (h2 : eb_DG m2 m3) : eb_DG m1 m3 := ⟨fun r a b c d e f => (h2.1 r a b c d e f).trans (h1.1 r a b c d e f), fun i a b => (h2.2 i a b).trans (h1.2 i a b)⟩
theorem eb_A_DG {n : Nat} (h : eb_A m w n) (hf : eb_DG m mm) : eb_A mm w n := by
  obtain ⟨h1, h2, h3, h4, h5, h6, h7, h8⟩ := h
  have k : ∀ r, r < 22 → r ≠ 16 → mm r = m r := fun r q1 q2 => hf.1 r q2 (by omega) (by omega) (by omega) (by omega) (by omega)
  unfold eb_A
  rw [k 2 (by decide) (by decide), k 3 (by decide) (by decide), k 4 (by decide) (by decide), k 5 (by decide) (by decide)]
  exact ⟨h1, h2, h3, h4, h5, h6, h7, eb_LR_cg (l := eb_ct m 16) (l' := eb_ct mm 16) (hf.2 0 (by decide) (by decide)) (hf.2 1 (by decide) (by decide)) (fun i j _ _ _ => congrFun (k (16 + i) (by omega) (by omega)) j) (fun j _ _ => congrFun (k 21 (by decide) (by decide)) j) rfl (fun _ _ _ => rfl) h8⟩
/-- a turn of the class -/
theorem eb_turnA {n b k R : Nat} {s : eb_Fl} (hA : eb_A m w n) (hn : n ≤ 6) (hb : b < n) (hR : R = 74 ∨ R = 75) (hs : eb_fA m R b s) (hf : eb_fly s) : eb_W (ea_cl (f_X0_gust m) fun r m1 => f_X0_drift R (nI k) r m1) (fun z => eb_DG m z.2 ∧ (∀ r, (r = 74 ∨ r = 75) → r ≠ R → z.2 r = m r) ∧ z.2 73 6 = (eb_tn w (nI b) k (m 73 6, s)).1 ∧ eb_fA z.2 R b (eb_tn w (nI b) k (m 73 6, s)).2) := by
  rw [eb_gustA, eb_clR]
  have dg : eb_DG m (ea_st m 73 6 (eb_gs (m 73 6))) := ⟨fun r _ _ _ q _ _ => eb_stA _ _ _ q, fun i _ _ => by rw [eb_stA _ _ _ (by decide)]⟩
  refine eb_mono (eb_driftA (k := k) (g := eb_gv (eb_gs (m 73 6))) (eb_A_DG hA dg) hn hb hR (by unfold eb_fA; rw [eb_stA _ _ _ (by omega)]; exact hs) hf) fun z hz => ?_
  have e : eb_tn w (nI b) k (m 73 6, s) = (eb_gs (m 73 6), eb_dr1 w (nI b) k (eb_gv (eb_gs (m 73 6))) s) := if_pos (eb_fly1 hf)
  rw [e]
  obtain ⟨hD, hF⟩ := hz
  refine ⟨⟨fun r q1 q2 q3 q4 q5 q6 => ?_, fun i q1 q2 => ?_⟩, fun r hr hne => ?_, ?_, hF⟩
  · rw [hD.1 r q1 q2 q3 q4 (by omega), eb_stA _ _ _ q4]
  · rw [hD.2.1 i q1 q2, eb_stA _ _ _ (by decide)]
  · rw [hD.1 r (by omega) (by omega) (by omega) (by omega) hne, eb_stA _ _ _ (by omega)]
  · rw [hD.2.2 6 (by decide) (by decide), eb_st]
theorem eb_duelA {n b c : Nat} (sd : Int32) (hA : eb_A m w n) (hn : n ≤ 6) (hb : b < n) (hc : c < n) (hst : eb_fly (w 8, w 7, 1, 0, 0)) : eb_W (f_X0_duel (nI b) (nI c) sd m) (fun z => eb_DG m z.2 ∧ z.2 73 6 = (eb_du w (nI b) (nI c) sd (w 8, w 7, 1, 0, 0) 8).1 ∧ eb_fA z.2 74 b (eb_du w (nI b) (nI c) sd (w 8, w 7, 1, 0, 0) 8).2.1 ∧ eb_fA z.2 75 c (eb_du w (nI b) (nI c) sd (w 8, w 7, 1, 0, 0) 8).2.2) := by
  unfold f_X0_duel
  refine eb_bdE fun m1 e1 => ?_
  have dg1 : eb_DG m m1 := ⟨fun r _ _ _ q _ _ => by rw [e1, eb_stA _ _ _ q], fun i _ _ => by rw [e1, eb_stA _ _ _ (by decide)]⟩
  have sd1 : m1 73 6 = sd := by rw [e1, eb_st]
  have hA1 := eb_A_DG hA dg1
  refine eb_cl (eb_releaseA (R := 74) (b := b) (Or.inl rfl) m1) fun r2 m2 h2 => eb_cl (eb_releaseA (R := 75) (b := c) (Or.inr rfl) m2) fun r4 m4 h4 => ?_
  dsimp only at h2 h4
  obtain ⟨f2, g2⟩ := h2
  obtain ⟨f4, g4⟩ := h4
  have dg4 : eb_DG m m4 := eb_DG_trans dg1 ⟨fun r _ _ _ _ q5 q6 => by rw [f4 r q6, f2 r q5], fun i _ _ => by rw [f4 16 (by decide), f2 16 (by decide)]⟩
  rw [f2 2 (by decide), hA1.2.1, hA1.1] at g4
  rw [hA1.2.1, hA1.1] at g2
  have g2' : eb_fA m4 74 b (w 8, w 7, 1, 0, 0) := by
    unfold eb_fA
    rw [f4 74 (by decide)]
    exact g2
  have sd4 : m4 73 6 = sd := by rw [f4 73 (by decide), f2 73 (by decide), sd1]
  refine eb_bind (eb_for (Q := fun z => eb_DG m z ∧ z 73 6 = (eb_du w (nI b) (nI c) sd (w 8, w 7, 1, 0, 0) 8).1 ∧ eb_fA z 74 b (eb_du w (nI b) (nI c) sd (w 8, w 7, 1, 0, 0) 8).2.1 ∧ eb_fA z 75 c (eb_du w (nI b) (nI c) sd (w 8, w 7, 1, 0, 0) 8).2.2) 8 (fun k t => t.1 = nI k ∧ eb_DG m t.2 ∧ t.2 73 6 = (eb_du w (nI b) (nI c) sd (w 8, w 7, 1, 0, 0) k).1 ∧ eb_fA t.2 74 b (eb_du w (nI b) (nI c) sd (w 8, w 7, 1, 0, 0) k).2.1 ∧ eb_fA t.2 75 c (eb_du w (nI b) (nI c) sd (w 8, w 7, 1, 0, 0) k).2.2) ?_ ?_ (by decide) ⟨rfl, dg4, sd4, g2', g4⟩) fun z hz => eb_some hz
  · rintro k ⟨t1, mm⟩ hk ⟨g1, d1, d2, d3, d4⟩
    have g1 : t1 = nI k := g1
    subst g1
    have d1 : eb_DG m mm := d1
    have d2 : mm 73 6 = (eb_du w (nI b) (nI c) sd (w 8, w 7, 1, 0, 0) k).1 := d2
    have d3 : eb_fA mm 74 b (eb_du w (nI b) (nI c) sd (w 8, w 7, 1, 0, 0) k).2.1 := d3
    have d4 : eb_fA mm 75 c (eb_du w (nI b) (nI c) sd (w 8, w 7, 1, 0, 0) k).2.2 := d4
    obtain ⟨o1, o2⟩ := eb_du_ok (w := w) (b := nI b) (c := nI c) (sd := sd) hst k (by omega)
    -- the second one's turn
    have two : ∀ (m8 : ea_M), eb_DG m m8 → m8 73 6 = (eb_tn w (nI b) k ((eb_du w (nI b) (nI c) sd (w 8, w 7, 1, 0, 0) k).1, (eb_du w (nI b) (nI c) sd (w 8, w 7, 1, 0, 0) k).2.1)).1 → eb_fA m8 74 b (eb_tn w (nI b) k ((eb_du w (nI b) (nI c) sd (w 8, w 7, 1, 0, 0) k).1, (eb_du w (nI b) (nI c) sd (w 8, w 7, 1, 0, 0) k).2.1)).2 → eb_fA m8 75 c (eb_du w (nI b) (nI c) sd (w 8, w 7, 1, 0, 0) k).2.2 →
        eb_W (f_X0_duel_j57 (nI k) m8) (fun z => ∃ m', z = .inl (nI (k + 1), m') ∧ eb_DG m m' ∧ m' 73 6 = (eb_du w (nI b) (nI c) sd (w 8, w 7, 1, 0, 0) (k + 1)).1 ∧ eb_fA m' 74 b (eb_du w (nI b) (nI c) sd (w 8, w 7, 1, 0, 0) (k + 1)).2.1 ∧ eb_fA m' 75 c (eb_du w (nI b) (nI c) sd (w 8, w 7, 1, 0, 0) (k + 1)).2.2) := by
      intro m8 k1 k2 k3 k4
      unfold f_X0_duel_j57 f_X0_duel_j81
      rw [k4.2.2.2.1, eb_bdR]
      rcases o2 with z | z
      · rw [eb_fly1 z, if_neg eb_ne10]
        have tA := eb_turnA (k := k) (eb_A_DG hA k1) hn hc (Or.inr rfl) k4 z
        rw [eb_gustA, eb_clR] at tA ⊢
        refine eb_cl tA fun r m14 hz => eb_some ⟨m14, by rw [nI_1], eb_DG_trans k1 hz.1, ?_, ?_, ?_⟩
        · rw [k2] at hz
          exact hz.2.2.1
        · unfold eb_fA
          rw [show m14 74 = m8 74 from hz.2.1 74 (Or.inl rfl) (by decide)]
          exact k3
        · rw [k2] at hz
          exact hz.2.2.2
      · rw [z.1, if_pos rfl]
        have e : ∀ x, eb_tn w (nI c) k (x, (eb_du w (nI b) (nI c) sd (w 8, w 7, 1, 0, 0) k).2.2) = (x, (eb_du w (nI b) (nI c) sd (w 8, w 7, 1, 0, 0) k).2.2) := fun x => if_neg (eb_done0 z)
        refine eb_some ⟨m8, by rw [nI_1], k1, ?_, k3, ?_⟩
        · show m8 73 6 = (eb_tn w (nI c) k _).1
          rw [e]
          exact k2
        · show eb_fA m8 75 c (eb_tn w (nI c) k _).2
          rw [e]
          exact k4
    unfold f_X0_duel_s26
    dsimp only
    rw [if_neg (show ¬ (8 : Int32) ≤ nI k from nI_ge (b := 8) hk (by decide)), d3.2.2.2.1, eb_bdR]
    rcases o1 with z | z
    · rw [eb_fly1 z, if_neg eb_ne10]
      have tA := eb_turnA (k := k) (eb_A_DG hA d1) hn hb (Or.inl rfl) d3 z
      rw [eb_gustA, eb_clR] at tA ⊢
      refine eb_cl tA fun r m18 hz => ?_
      rw [d2] at hz
      refine eb_mono (two m18 (eb_DG_trans d1 hz.1) hz.2.2.1 hz.2.2.2 ?_) ?_
      · unfold eb_fA
        rw [show m18 75 = mm 75 from hz.2.1 75 (Or.inr rfl) (by decide)]
        exact d4
      · rintro z ⟨m', rfl, hm⟩
        exact ⟨rfl, hm⟩
    · rw [z.1, if_pos rfl]
      have e : eb_tn w (nI b) k ((eb_du w (nI b) (nI c) sd (w 8, w 7, 1, 0, 0) k).1, (eb_du w (nI b) (nI c) sd (w 8, w 7, 1, 0, 0) k).2.1) = ((eb_du w (nI b) (nI c) sd (w 8, w 7, 1, 0, 0) k).1, (eb_du w (nI b) (nI c) sd (w 8, w 7, 1, 0, 0) k).2.1) := if_neg (eb_done0 z)
      refine eb_mono (two mm d1 ?_ ?_ d4) ?_
      · rw [e]; exact d2
      · rw [e]; exact d3
      · rintro z ⟨m', rfl, hm⟩
        exact ⟨rfl, hm⟩
  · rintro ⟨t1, mm⟩ ⟨g1, g2⟩
    have g1 : t1 = nI 8 := g1
    subst g1
    unfold f_X0_duel_s26
    rw [if_pos (show (8 : Int32) ≤ nI 8 by decide)]
    exact eb_some g2
end DUEL
