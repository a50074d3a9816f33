section LAYSB
variable {m mm : ea_M} {w : Nat → Int32}
/-- a loop of the reference that lays zeros -/
theorem eb_zeroL {step : Int32 × ea_M → Option ((Int32 × ea_M) ⊕ ea_M)} (n B : Nat) (hn : n < 3000) (m : ea_M) (hs : ∀ k ms, k < n → step (nI k, ms) = some (.inl (nI (k + 1), ea_st ms B k 0))) (he : ∀ ms, step (nI n, ms) = some (.inr ms)) :
    eb_W (ea_loop step ea_fuel (0, m)) (fun z => (∀ a, a ≠ B → z a = m a) ∧ ∀ i, i < n → z B i = 0) := by
  refine eb_for n (fun k s => s.1 = nI k ∧ (∀ a, a ≠ B → s.2 a = m a) ∧ ∀ i, i < k → s.2 B i = 0) ?_ ?_ (by unfold ea_fuel; omega) ⟨rfl, fun _ _ => rfl, fun i hi => absurd hi (Nat.not_lt_zero _)⟩
  · rintro k ⟨c, ms⟩ hk ⟨g1, g2, g3⟩
    have g1 : c = nI k := g1
    subst g1
    have g2 : ∀ a, a ≠ B → ms a = m a := g2
    have g3 : ∀ i, i < k → ms B i = 0 := g3
    rw [hs k ms hk]
    refine eb_some ⟨rfl, fun a ha => ?_, fun i hi => ?_⟩
    · show ea_st ms B k 0 a = _
      rw [eb_stA _ _ _ ha]; exact g2 a ha
    · show ea_st ms B k 0 B i = 0
      by_cases q : i = k
      · subst q
        rw [eb_st]
      · rw [eb_stI _ _ _ q]; exact g3 i (by omega)
  · rintro ⟨c, ms⟩ ⟨g1, g2, g3⟩
    have g1 : c = nI n := g1
    subst g1
    rw [he ms]
    exact eb_some ⟨g2, g3⟩
/-- level 0 stays empty -/
theorem eb_set_low {k : Nat} {to c n : Int32} {d : eb_D} (h : ∀ p, p < 16 → d.1 p = 0) : ∀ p, p < 16 → (eb_set k to c n d).1 p = 0 := fun p hp => by
  unfold eb_set
  by_cases q1 : c < 0 ∨ 16 ≤ c
  · rw [if_pos q1]; exact h p hp
  · rw [if_neg q1]
    by_cases q2 : to ≤ 0
    · rw [if_pos q2]; exact h p hp
    · rw [if_neg q2]
      show upd d.1 _ _ p = 0
      have t0 : 0 < to.toNatClampNeg := by
        obtain ⟨j, hj, rfl⟩ := nI_of (Int32.not_lt.mpr (Int32.le_of_lt (Int32.not_le.mp q2)))
        rw [nI_clamp hj]
        have := (nI_ltI (a := 0) (b := j) (by decide) hj).mp (Int32.not_le.mp q2)
        exact this
      rw [pk_un (by omega)]
      exact h p hp
theorem eb_pl_low {b : Int32} {k : Nat} {here : Nat → Int32} {d : eb_D} (h : ∀ p, p < 16 → d.1 p = 0) (n : Nat) : ∀ p, p < 16 → (eb_pl w b k here d n).1 p = 0 := by
  induction n with
  | zero => exact h
  | succ n ih =>
    have nx : eb_pl w b k here d (n + 1) = eb_spr w b k here (16 + n) (eb_pl w b k here d n) := rfl
    rw [nx]
    unfold eb_spr
    by_cases q : 0 < here (16 + n)
    · rw [if_pos q]
      unfold eb_gu
      exact eb_set_low (eb_set_low (eb_set_low ih))
    · rw [if_neg q]
      exact ih
theorem eb_way_low {b : Int32} {tp : Nat} (h8 : w 8 = nI tp) (ht : 1 ≤ tp) (ht2 : tp ≤ 12) (k : Nat) : ∀ p, p < 16 → (eb_way w b k).1 p = 0 := by
  cases k with
  | zero =>
    intro p hp
    rw [eb_way, h8, nI_clamp (by omega)]
    show upd (fun _ => (0 : Int32)) (16 * tp + _) 1 p = 0
    rw [pk_un (by omega)]
  | succ k =>
    rw [eb_way_s]
    exact eb_pl_low (fun _ _ => rfl) 192
theorem eb_S_add {f : Nat → Int32} (a : Nat) (h : ∀ i, i < a → f i = 0) (n : Nat) : eb_S f (a + n) = eb_S (fun i => f (a + i)) n := by
  induction n with
  | zero => exact eb_S_0 h
  | succ n ih =>
    show eb_S f (a + n) + f (a + n) = eb_S (fun i => f (a + i)) n + f (a + n)
    rw [ih]
/-- what the reference's laying leaves: blown, in the air, landed -/
def eb_ML (m : ea_M) (w : Nat → Int32) (b : Nat) : Prop := m 272 25 = eb_off w (nI b) ∧ m 272 26 = eb_alo w (nI b) ∧ ∀ j, j < 128 → m 283 (16 + j) = eb_lan w (nI b) j
/-- rows that laying leaves alone -/
def eb_MS (m m' : ea_M) : Prop := (∀ r, r ≠ 272 → r ≠ 280 → r ≠ 281 → r ≠ 282 → r ≠ 283 → m' r = m r) ∧ ∀ i, ¬ (18 ≤ i ∧ i ≤ 21) → i ≠ 25 → i ≠ 26 → m' 272 i = m 272 i
theorem eb_MS_trans {m1 m2 m3 : ea_M} (h1 : eb_MS m1 m2) (h2 : eb_MS m2 m3) : eb_MS m1 m3 := ⟨fun r q1 q2 q3 q4 q5 => (h2.1 r q1 q2 q3 q4 q5).trans (h1.1 r q1 q2 q3 q4 q5), fun i q1 q2 q3 => (h2.2 i q1 q2 q3).trans (h1.2 i q1 q2 q3)⟩
theorem eb_laysM {l : Nat → Nat → Int32} {b tp tv : Nat} (hb : b < 6) (h273 : m 273 = w) (hL : eb_LR l w) (h8 : w 8 = nI tp) (h8a : 1 ≤ tp) (h8b : tp ≤ 12) (h7 : w 7 = nI tv) (h7a : tv ≤ 15) : eb_W (f_X12_laysWays (nI b) m) (fun z => eb_MS m z.2 ∧ eb_ML z.2 w b) := by
  unfold f_X12_laysWays
  refine eb_bdE fun m1 e1 => eb_bdE fun m2 e2 => eb_bdE fun m3 e3 => ?_
  have r3 : ∀ r, r ≠ 272 → m3 r = m r := fun r hr => by rw [e3, eb_stA _ _ _ hr, e2, eb_stA _ _ _ hr, e1, eb_stA _ _ _ hr]
  have i3 : ∀ i, i ≠ 18 → i ≠ 25 → i ≠ 26 → m3 272 i = m 272 i := fun i q1 q2 q3 => by rw [e3, eb_stI _ _ _ q3, e2, eb_stI _ _ _ q2, e1, eb_stI _ _ _ q1]
  have a18 : m3 272 18 = nI b := by rw [e3, eb_stI _ _ _ (by decide), e2, eb_stI _ _ _ (by decide), e1, eb_st]
  have a25 : m3 272 25 = 0 := by rw [e3, eb_stI _ _ _ (by decide), e2, eb_st]
  have a26 : m3 272 26 = 0 := by rw [e3, eb_st]
  clear e1 e2 e3
  refine eb_bind (eb_zeroL 208 281 (by decide) m3 (fun k ms hk => ?_) (fun ms => rfl)) fun x17 hx17 => ?_
  · unfold f_X12_laysWays_s17
    dsimp only
    rw [if_neg (show ¬ (208 : Int32) ≤ nI k from nI_ge (b := 208) hk (by decide)), eb_gN hk (by decide), eb_bdR, nI_clamp (by omega), nI_1]
  refine eb_bind (eb_zeroL 144 283 (by decide) x17 (fun k ms hk => ?_) (fun ms => rfl)) fun x39 hx39 => ?_
  · unfold f_X12_laysWays_s39
    dsimp only
    rw [if_neg (show ¬ (144 : Int32) ≤ nI k from nI_ge (b := 144) hk (by decide)), eb_gN hk (by decide), eb_bdR, nI_clamp (by omega), nI_1]
  obtain ⟨u1, u2⟩ := hx17
  obtain ⟨v1, v2⟩ := hx39
  have w39 : x39 273 = w := by rw [v1 273 (by decide), u1 273 (by decide), r3 273 (by decide), h273]
  rw [w39, h8, eb_bdR, h7, eb_bdR, eb_atE, eb_clR, eb_gN (by omega) (by decide), nI_clamp (by omega)]
  refine eb_bdE fun m10 e10 => ?_
  have r10 : ∀ r, r ≠ 281 → m10 r = x39 r := fun r hr => by rw [e10, eb_stA _ _ _ hr]
  have w0 : eb_way w (nI b) 0 = (upd (fun _ => 0) (16 * tp + tv) 1, 0, fun _ => 0) := by
    rw [eb_way, h8, h7, nI_clamp (by omega), nI_clamp (by omega)]
  have x272 : m10 272 = m3 272 := by rw [r10 272 (by decide), v1 272 (by decide), u1 272 (by decide)]
  have ms10 : eb_MS m m10 := ⟨fun r q1 _ q3 _ q5 => by rw [r10 r q3, v1 r q5, u1 r q3, r3 r q1], fun i q1 q2 q3 => by rw [x272]; exact i3 i (by omega) q2 q3⟩
  refine eb_bind (eb_for (Q := fun z => eb_MS m z ∧ z 272 26 = 0 ∧ (∀ p, p < 208 → z 281 p = (eb_way w (nI b) 8).1 p) ∧ z 272 25 = (eb_way w (nI b) 8).2.1 ∧ ∀ j, j < 128 → z 283 (16 + j) = (eb_way w (nI b) 8).2.2 j) 8 (fun k t => t.1 = nI k ∧ eb_MS m t.2 ∧ t.2 272 26 = 0 ∧ t.2 272 18 = nI b ∧ (∀ p, p < 208 → t.2 281 p = (eb_way w (nI b) k).1 p) ∧ t.2 272 25 = (eb_way w (nI b) k).2.1 ∧ ∀ j, j < 128 → t.2 283 (16 + j) = (eb_way w (nI b) k).2.2 j) ?_ ?_ (by decide) ⟨rfl, ms10, (congrFun x272 26).trans a26, (congrFun x272 18).trans a18, fun p hp => ?_, ?_, fun j hj => ?_⟩) fun x84 hx84 => ?_
  · rintro k ⟨t1, mm⟩ hk ⟨g1, g2, g3, g3', g4, g5, g6⟩
    have g1 : t1 = nI k := g1
    subst g1
    have g2 : eb_MS m mm := g2
    have g3 : mm 272 26 = 0 := g3
    have g3' : mm 272 18 = nI b := g3'
    have g4 : ∀ p, p < 208 → mm 281 p = (eb_way w (nI b) k).1 p := g4
    have g5 : mm 272 25 = (eb_way w (nI b) k).2.1 := g5
    have g6 : ∀ j, j < 128 → mm 283 (16 + j) = (eb_way w (nI b) k).2.2 j := g6
    obtain ⟨W, eW⟩ : ∃ W, W = eb_way w (nI b) k := ⟨_, rfl⟩
    rw [← eW] at g4 g5 g6
    have nx := eb_way_s w (nI b) k
    rw [← eW] at nx
    unfold f_X12_laysWays_s84
    dsimp only
    rw [if_neg (show ¬ (8 : Int32) ≤ nI k from nI_ge (b := 8) hk (by decide))]
    refine eb_bind (eb_zeroL 208 282 (by decide) mm (fun i ms hi => ?_) (fun ms => rfl)) fun x92 hx92 => ?_
    · unfold f_X12_laysWays_s92
      dsimp only
      rw [if_neg (show ¬ (208 : Int32) ≤ nI i from nI_ge (b := 208) hi (by decide)), eb_gN hi (by decide), eb_bdR, nI_clamp (by omega), nI_1]
    obtain ⟨s1, s2⟩ := hx92
    have md92 : eb_MD x92 (fun _ => 0, W.2.1, W.2.2) := ⟨fun p hp => s2 p hp, by rw [s1 272 (by decide)]; exact g5, fun j hj => by rw [s1 283 (by decide)]; exact g6 j hj⟩
    have w92 : x92 273 = w := by rw [s1 273 (by decide), g2.1 273 (by decide) (by decide) (by decide) (by decide) (by decide), h273]
    refine eb_bind (eb_for (Q := fun z => eb_MR x92 z ∧ z 272 18 = nI b ∧ eb_MD z (eb_pl w (nI b) k W.1 (fun _ => 0, W.2.1, W.2.2) 192)) 12 (fun i t => t.1 = nI (i + 1) ∧ eb_MR x92 t.2 ∧ t.2 272 18 = nI b ∧ eb_MD t.2 (eb_pl w (nI b) k W.1 (fun _ => 0, W.2.1, W.2.2) (16 * i))) ?_ ?_ (by decide) ⟨rfl, ⟨fun _ _ _ _ _ => rfl, fun _ _ _ => rfl⟩, (congrFun (s1 272 (by decide)) 18).trans g3', md92⟩) fun x114 hx114 => ?_
    · rintro i ⟨t1, ml⟩ hi ⟨j1, j2, j3, j4⟩
      have j1 : t1 = nI (i + 1) := j1
      subst j1
      have j2 : eb_MR x92 ml := j2
      unfold f_X12_laysWays_s114
      dsimp only
      rw [if_neg (show ¬ (13 : Int32) ≤ nI (i + 1) from nI_ge (b := 13) (by omega) (by decide))]
      refine eb_bind (eb_for (Q := fun z => eb_MR x92 z ∧ z 272 18 = nI b ∧ eb_MD z (eb_pl w (nI b) k W.1 (fun _ => 0, W.2.1, W.2.2) (16 * (i + 1)))) 16 (fun c t => t.1 = nI c ∧ eb_MR x92 t.2 ∧ t.2 272 18 = nI b ∧ eb_MD t.2 (eb_pl w (nI b) k W.1 (fun _ => 0, W.2.1, W.2.2) (16 * i + c))) ?_ ?_ (by decide) ⟨rfl, j2, j3, j4⟩) fun z hz => eb_some ⟨nI_1 _, hz⟩
      · rintro c ⟨t2, mc⟩ hc ⟨k1, k2, k3, k4⟩
        have k1 : t2 = nI c := k1
        subst k1
        have k2 : eb_MR x92 mc := k2
        have k3 : mc 272 18 = nI b := k3
        have k4 : eb_MD mc (eb_pl w (nI b) k W.1 (fun _ => 0, W.2.1, W.2.2) (16 * i + c)) := k4
        have h281 : mc 281 (16 * (i + 1) + c) = W.1 (16 * (i + 1) + c) := by rw [k2.1 281 (by decide) (by decide) (by decide) (by decide), s1 281 (by decide)]; exact g4 _ (by omega)
        have wc : mc 273 = w := by rw [k2.1 273 (by decide) (by decide) (by decide) (by decide)]; exact w92
        have np : eb_pl w (nI b) k W.1 (fun _ => 0, W.2.1, W.2.2) (16 * i + (c + 1)) = eb_spr w (nI b) k W.1 (16 * (i + 1) + c) (eb_pl w (nI b) k W.1 (fun _ => 0, W.2.1, W.2.2) (16 * i + c)) := by
          show eb_spr w (nI b) k W.1 (16 + (16 * i + c)) _ = _
          rw [show 16 + (16 * i + c) = 16 * (i + 1) + c by omega]
          rfl
        unfold f_X12_laysWays_s123 f_X12_laysWays_j152
        dsimp only
        rw [if_neg (show ¬ (16 : Int32) ≤ nI c from nI_ge (b := 16) hc (by decide)), eb_atE, eb_clR, eb_gN (by omega) (by decide), eb_bdR, nI_clamp (by omega), h281]
        by_cases q : W.1 (16 * (i + 1) + c) ≤ 0
        · rw [if_pos q, nI_1]
          refine eb_some ⟨rfl, k2, k3, ?_⟩
          rw [np]
          unfold eb_spr
          rw [if_neg (Int32.not_lt.mpr q)]
          exact k4
        · rw [if_neg q]
          refine eb_cl (eb_goesM hk hb (by omega) (by omega) hc wc k3 hL h281 (Int32.not_le.mp q) k4) fun r m17 hz => ?_
          rw [nI_1]
          refine eb_some ⟨rfl, eb_MR_trans k2 hz.1, hz.2.1, ?_⟩
          rw [np]
          exact hz.2.2
      · rintro ⟨t2, mc⟩ ⟨k1, k2, k3, k4⟩
        have k1 : t2 = nI 16 := k1
        subst k1
        unfold f_X12_laysWays_s123
        rw [if_pos (show (16 : Int32) ≤ nI 16 by decide)]
        refine eb_some ⟨k2, k3, ?_⟩
        rw [show 16 * (i + 1) = 16 * i + 16 by omega]
        exact k4
    · rintro ⟨t1, ml⟩ ⟨j1, j2⟩
      have j1 : t1 = nI 13 := j1
      subst j1
      unfold f_X12_laysWays_s114
      rw [if_pos (show (13 : Int32) ≤ nI 13 by decide)]
      exact eb_some j2
    · rw [← nx] at hx114
      obtain ⟨y1, y2, y3, y4, y5⟩ := hx114
      refine eb_bind (eb_cpyL 208 282 281 0 (by decide) (by decide) x114 (fun i ms hi hms => ?_) (fun ms => rfl)) fun x166 hx166 => ?_
      · unfold f_X12_laysWays_s166
        dsimp only
        rw [if_neg (show ¬ (208 : Int32) ≤ nI i from nI_ge (b := 208) hi (by decide)), eb_gN hi (by decide), eb_bdR, eb_gN hi (by decide), eb_bdR, nI_clamp (by omega), nI_1, Nat.zero_add]
      · obtain ⟨o1, o2⟩ := hx166
        refine eb_some ⟨nI_1 k, eb_MS_trans g2 ⟨fun r p1 p2 p3 p4 p5 => ?_, fun i p1 p2 p3 => ?_⟩, ?_, ?_, fun p hp => ?_, ?_, fun j hj => ?_⟩
        · show x166 r = mm r
          rw [o1 r p3, y1.1 r p1 p2 p4 p5, s1 r p4]
        · show x166 272 i = mm 272 i
          rw [o1 272 (by decide), y1.2 i p1 p2, s1 272 (by decide)]
        · show x166 272 26 = 0
          rw [o1 272 (by decide), y1.2 26 (by omega) (by decide), s1 272 (by decide)]; exact g3
        · show x166 272 18 = nI b
          rw [o1 272 (by decide)]; exact y2
        · show x166 281 p = _
          rw [o2 p, if_pos hp, Nat.zero_add]; exact y3 p hp
        · show x166 272 25 = _
          rw [o1 272 (by decide)]; exact y4
        · show x166 283 (16 + j) = _
          rw [o1 283 (by decide)]; exact y5 j hj
  · rintro ⟨t1, mm⟩ ⟨g1, g2, g3, _, g4⟩
    have g1 : t1 = nI 8 := g1
    subst g1
    unfold f_X12_laysWays_s84
    rw [if_pos (show (8 : Int32) ≤ nI 8 by decide)]
    exact eb_some ⟨g2, g3, g4⟩
  · rw [w0]
    show m10 281 p = upd (fun _ => (0 : Int32)) (16 * tp + tv) 1 p
    rw [e10, eb_sts]
    by_cases q : p = 16 * tp + tv
    · rw [if_pos ⟨rfl, q⟩, q, pk_us]
    · rw [if_neg (fun y => q y.2), v1 281 (by decide), pk_un q]
      exact u2 p hp
  · rw [w0]
    show m10 272 25 = 0
    rw [x272]; exact a25
  · rw [w0]
    show m10 283 (16 + j) = 0
    rw [r10 283 (by decide)]; exact v2 _ (by omega)
  · obtain ⟨q1, q2, q3, q4, q5⟩ := hx84
    have low := eb_way_low (b := nI b) h8 h8a h8b 8
    obtain ⟨W, eW⟩ : ∃ W, W = eb_way w (nI b) 8 := ⟨_, rfl⟩
    rw [← eW] at q3 q4 q5 low
    refine eb_bind (eb_for (Q := fun z => (∀ r, r ≠ 272 → z r = x84 r) ∧ (∀ i, i ≠ 26 → z 272 i = x84 272 i) ∧ z 272 26 = eb_S W.1 208) 208 (fun i t => t.1 = nI i ∧ (∀ r, r ≠ 272 → t.2 r = x84 r) ∧ (∀ i, i ≠ 26 → t.2 272 i = x84 272 i) ∧ t.2 272 26 = eb_S W.1 i) ?_ ?_ (by decide) ⟨rfl, fun _ _ => rfl, fun _ _ => rfl, q2⟩) fun z hz => eb_some ?_
    · rintro i ⟨t1, mm⟩ hi ⟨g1, g2, g3, g4⟩
      have g1 : t1 = nI i := g1
      subst g1
      have g2 : ∀ r, r ≠ 272 → mm r = x84 r := g2
      have g3 : ∀ i, i ≠ 26 → mm 272 i = x84 272 i := g3
      have g4 : mm 272 26 = eb_S W.1 i := g4
      unfold f_X12_laysWays_s199
      dsimp only
      rw [if_neg (show ¬ (208 : Int32) ≤ nI i from nI_ge (b := 208) hi (by decide)), g4, eb_bdR, eb_gN hi (by decide), eb_bdR, nI_clamp (by omega), g2 281 (by decide), q3 i hi, nI_1]
      refine eb_bdE fun m23 e23 => eb_some ⟨rfl, fun r hr => ?_, fun j hj => ?_, ?_⟩
      · show m23 r = _
        rw [e23, eb_stA _ _ _ hr]; exact g2 r hr
      · show m23 272 j = _
        rw [e23, eb_stI _ _ _ hj]; exact g3 j hj
      · show m23 272 26 = eb_S W.1 i + W.1 i
        rw [e23, eb_st]
    · rintro ⟨t1, mm⟩ ⟨g1, g2⟩
      have g1 : t1 = nI 208 := g1
      subst g1
      unfold f_X12_laysWays_s199
      rw [if_pos (show (208 : Int32) ≤ nI 208 by decide)]
      exact eb_some g2
    · obtain ⟨y1, y2, y3⟩ := hz
      have eo : eb_off w (nI b) = W.2.1 := by unfold eb_off; rw [← eW]
      have el : eb_lan w (nI b) = W.2.2 := by
        funext j
        unfold eb_lan
        rw [← eW]
      have ea : eb_alo w (nI b) = eb_S (fun i => W.1 (16 + i)) 192 := by unfold eb_alo; rw [← eW]
      refine ⟨⟨fun r p1 p2 p3 p4 p5 => ?_, fun i p1 p2 p3 => ?_⟩, ?_, ?_, fun j hj => ?_⟩
      · show z r = m r
        rw [y1 r p1, q1.1 r p1 p2 p3 p4 p5]
      · show z 272 i = m 272 i
        rw [y2 i p3, q1.2 i p1 p2 p3]
      · show z 272 25 = _
        rw [y2 25 (by decide), eo]; exact q4
      · show z 272 26 = _
        rw [y3, ea]
        exact eb_S_add 16 low 192
      · show z 283 (16 + j) = _
        rw [y1 283 (by decide), el]; exact q5 j hj
end LAYSB
