section RECKONB
variable {m mm : ea_M} {w : Nat → Int32}
theorem eb_fillA (r nn : Nat) (hn : nn < 1000) (m : ea_M) : eb_W (f_J7_fill_53178 r nn 0 m) (fun z => (∀ i, i < nn → z.2 r i = 0) ∧ ∀ q, q ≠ r → z.2 q = m q) := by
  unfold f_J7_fill_53178
  rw [show Int32.ofNat nn = nI nn from rfl, eb_bdR]
  refine eb_bind (eb_for (Q := fun z => (∀ i, i < nn → z r i = 0) ∧ ∀ q, q ≠ r → z q = m q) nn (fun k t => t.1 = nI k ∧ (∀ i, i < k → t.2 r i = 0) ∧ ∀ q, q ≠ r → t.2 q = m q) ?_ ?_ (by unfold ea_fuel; omega) ⟨rfl, fun i hi => absurd hi (Nat.not_lt_zero _), fun _ _ => rfl⟩) fun z hz => eb_some hz
  · rintro k ⟨t1, mm⟩ hk ⟨g1, g2, g3⟩
    have g1 : t1 = nI k := g1
    subst g1
    have g2 : ∀ i, i < k → mm r i = 0 := g2
    have g3 : ∀ q, q ≠ r → mm q = m q := g3
    unfold f_J7_fill_53178_s5
    dsimp only
    rw [if_neg (nI_ge hk (by omega)), eb_gN hk (by omega), nI_clamp (by omega), nI_1]
    refine eb_bdE fun m2 e2 => eb_some ⟨rfl, fun i hi => ?_, fun q hq => ?_⟩
    · show m2 r i = 0
      rw [e2]
      by_cases q : i = k
      · subst q
        rw [eb_st]
      · rw [eb_stI _ _ _ q]
        exact g2 i (by omega)
    · show m2 q = m q
      rw [e2, eb_stA _ _ _ hq]
      exact g3 q hq
  · rintro ⟨t1, mm⟩ ⟨g1, g2⟩
    have g1 : t1 = nI nn := g1
    subst g1
    unfold f_J7_fill_53178_s5
    dsimp only
    rw [if_pos (nI_le (Nat.le_refl _) (by omega))]
    exact eb_some g2
theorem eb_S_0 {f : Nat → Int32} : ∀ {n : Nat}, (∀ i, i < n → f i = 0) → eb_S f n = 0
  | 0, _ => rfl
  | n + 1, h => by
    show eb_S f n + f n = 0
    rw [eb_S_0 (fun i hi => h i (by omega)), h n (by omega)]
    rfl
theorem eb_gd_0 (w : Nat → Int32) (k : Nat) : eb_gd w (fun _ => 0) k = 0 := eb_S_0 fun _ _ => rfl
theorem eb_clearA {a : Nat} (m : ea_M) : eb_W (f_X4_clear a m) (fun z => z.2 a 0 = 0 ∧ z.2 a 1 = 0 ∧ (∀ j, j < 128 → z.2 (a + 1) j = 0) ∧ (∀ j, j < 9 → z.2 (a + 2) j = 0) ∧ ∀ r, r ≠ a → r ≠ a + 1 → r ≠ a + 2 → z.2 r = m r) := by
  unfold f_X4_clear
  refine eb_bdE fun m1 e1 => eb_bdE fun m2 e2 => eb_cl (eb_fillA (a + 1) 128 (by decide) m2) fun r3 m3 h3 => eb_cl (eb_fillA (a + 2) 9 (by decide) m3) fun r5 m5 h5 => ?_
  dsimp only at h3 h5
  refine eb_some ⟨?_, ?_, fun j hj => ?_, h5.1, fun r q1 q2 q3 => ?_⟩
  · show m5 a 0 = 0
    rw [h5.2 a (by omega), h3.2 a (by omega), e2, eb_stI _ _ _ (by decide), e1, eb_st]
  · show m5 a 1 = 0
    rw [h5.2 a (by omega), h3.2 a (by omega), e2, eb_st]
  · show m5 (a + 1) j = 0
    rw [h5.2 (a + 1) (by omega)]
    exact h3.1 j hj
  · show m5 r = m r
    rw [h5.2 r q3, h3.2 r q2, e2, eb_stA _ _ _ q1, e1, eb_stA _ _ _ q1]
/-- rows that reckoning leaves alone -/
def eb_RG (a : Nat) (m m' : ea_M) : Prop := (∀ r, r ≠ 16 → r ≠ 22 → r ≠ 23 → r ≠ 73 → r ≠ 77 → r ≠ 78 → r ≠ a → r ≠ a + 1 → r ≠ a + 2 → m' r = m r) ∧ ∀ i, i ≠ 2 → i ≠ 3 → m' 16 i = m 16 i
theorem eb_RG_trans {a : Nat} {m1 m2 m3 : ea_M} (h1 : eb_RG a m1 m2) (h2 : eb_RG a m2 m3) : eb_RG a m1 m3 := ⟨fun r q1 q2 q3 q4 q5 q6 q7 q8 q9 => (h2.1 r q1 q2 q3 q4 q5 q6 q7 q8 q9).trans (h1.1 r q1 q2 q3 q4 q5 q6 q7 q8 q9), fun i q1 q2 => (h2.2 i q1 q2).trans (h1.2 i q1 q2)⟩
theorem eb_RG_RF {a : Nat} (h : eb_RF a m mm) : eb_RG a m mm := ⟨fun r q1 q2 q3 q4 _ q6 q7 q8 q9 => h.1 r q1 q2 q3 q4 q6 q7 q8 q9, h.2.1⟩
theorem eb_A_RG {n a : Nat} (ha : eb_fp a) (h : eb_A m w n) (hf : eb_RG a m mm) : eb_A mm w n := by
  unfold eb_fp at ha
  obtain ⟨h1, h2, h3, h4, h5, h6, h7, h8⟩ := h
  have k : ∀ r, r < 22 → r ≠ 16 → mm r = m r := fun r q1 q2 => hf.1 r q2 (by omega) (by omega) (by omega) (by omega) (by omega) (by omega) (by omega) (by omega)
  unfold eb_A
  rw [k 2 (by decide) (by decide), k 3 (by decide) (by decide), k 4 (by decide) (by decide), k 5 (by decide) (by decide)]
  exact ⟨h1, h2, h3, h4, h5, h6, h7, eb_LR_cg (l := eb_ct m 16) (l' := eb_ct mm 16) (hf.2 0 (by decide) (by decide)) (hf.2 1 (by decide) (by decide)) (fun i j _ _ _ => congrFun (k (16 + i) (by omega) (by omega)) j) (fun j _ _ => congrFun (k 21 (by decide) (by decide)) j) rfl (fun _ _ _ => rfl) h8⟩
/-- the fates reckoned so far: off, landed, goods -/
def eb_RO (m : ea_M) (a : Nat) (w : Nat → Int32) (d : eb_D) : Prop := m a 0 = d.2.1 ∧ (∀ j, j < 128 → m (a + 1) j = d.2.2 j) ∧ ∀ k, k < 8 → m (a + 2) (k + 1) = eb_gd w d.2.2 k
/-- the places of breath k, of the class -/
theorem eb_placesA {n b k a fr tw : Nat} {here : Nat → Int32} {d : eb_D} {s44 : Int32 × ea_M} (e44 : s44.1 = nI (k + 1)) (ha : eb_fp a) (hk : k < 8) (hn : n ≤ 6) (hb : b < n) (hA : eb_A m w n) (hf : w 9 = nI fr) (ht : w 10 = nI tw) (h1 : fr ≤ tw) (h2 : tw ≤ 15) (hh : ∀ p, p < 208 → m 77 p = here p) (hd : eb_RD m a w d) :
    eb_W (ea_loop (f_X10_reckon_s62 (nI b) a s44) ea_fuel (16, m)) (fun z => eb_RF a m z ∧ eb_RD z a w (eb_pl w (nI b) k here d 192)) := by
  have ha' := ha
  unfold eb_fp at ha'
  refine eb_for 192 (fun i t => t.1 = nI (16 + i) ∧ eb_RF a m t.2 ∧ eb_RD t.2 a w (eb_pl w (nI b) k here d i)) ?_ ?_ (by decide) ⟨rfl, ⟨fun _ _ _ _ _ _ _ _ _ => rfl, fun _ _ _ => rfl, rfl⟩, hd⟩
  · rintro i ⟨t1, mm⟩ hi ⟨g1, g2, g3⟩
    have g1 : t1 = nI (16 + i) := g1
    subst g1
    have g2 : eb_RF a m mm := g2
    have g3 : eb_RD mm a w (eb_pl w (nI b) k here d i) := g3
    have h77 : mm 77 (16 + i) = here (16 + i) := by rw [g2.1 77 (by omega) (by omega) (by omega) (by omega) (by omega) (by omega) (by omega) (by omega)]; exact hh _ (by omega)
    have nx : eb_pl w (nI b) k here d (i + 1) = eb_spr w (nI b) k here (16 + i) (eb_pl w (nI b) k here d i) := rfl
    unfold f_X10_reckon_s62 f_X10_reckon_j91
    dsimp only
    rw [if_neg (show ¬ (208 : Int32) ≤ nI (16 + i) from nI_ge (b := 208) (by omega) (by decide)), eb_gN (by omega) (by decide), eb_bdR, nI_clamp (by omega), h77, e44]
    by_cases q : here (16 + i) ≤ 0
    · rw [if_pos q, nI_1]
      refine eb_some ⟨rfl, g2, ?_⟩
      rw [nx]
      unfold eb_spr
      rw [if_neg (Int32.not_lt.mpr q)]
      exact g3
    · rw [if_neg q]
      refine eb_cl (eb_spreadA ha hk hn hb (show 16 ≤ 16 + i by omega) (by omega) (eb_A_RF ha hA g2) hf ht h1 h2 h77 (Int32.not_le.mp q) g3) fun r m14 hz => ?_
      rw [nI_1]
      refine eb_some ⟨rfl, eb_RF_trans g2 hz.1, ?_⟩
      rw [nx]
      exact hz.2
  · rintro ⟨t1, mm⟩ ⟨g1, g2⟩
    have g1 : t1 = nI 208 := g1
    subst g1
    unfold f_X10_reckon_s62
    rw [if_pos (show (208 : Int32) ≤ nI 208 by decide)]
    exact eb_some g2
theorem eb_way_s (w : Nat → Int32) (b : Int32) (k : Nat) : eb_way w b (k + 1) = eb_pl w b k (eb_way w b k).1 (fun _ => 0, (eb_way w b k).2.1, (eb_way w b k).2.2) 192 := by rw [eb_way]
theorem eb_reckonA {n b a fr tw tp tv : Nat} (ha : eb_fp a) (hn : n ≤ 6) (hb : b < n) (hA : eb_A m w n) (hf : w 9 = nI fr) (ht : w 10 = nI tw) (h1 : fr ≤ tw) (h2 : tw ≤ 15) (h8 : w 8 = nI tp) (h8a : tp ≤ 12) (h7 : w 7 = nI tv) (h7a : tv ≤ 15) :
    eb_W (f_X10_reckon (nI b) a m) (fun z => eb_RG a m z.2 ∧ eb_FT w b (eb_ct z.2 a)) := by
  have ha' := ha
  unfold eb_fp at ha'
  unfold f_X10_reckon
  refine eb_cl (eb_clearA m) fun r1 m1 c1 => eb_cl (eb_fillA 77 208 (by decide) m1) fun r3 m3 c3 => ?_
  dsimp only at c1 c3
  obtain ⟨l1, l2, l3, l4, l5⟩ := c1
  obtain ⟨f1, f2⟩ := c3
  have k2 : m3 2 = m 2 := by rw [f2 2 (by decide), l5 2 (by omega) (by omega) (by omega)]
  have ix : nI tp * 16 + nI tv = nI (16 * tp + tv) := by
    show nI tp * nI 16 + nI tv = _
    rw [pk_mul, nI_add, Nat.mul_comm]
  rw [k2, hA.2.1, hA.1, h8, h7, eb_bdR, eb_bdR, ix, eb_bdR, eb_gN (by omega) (by decide), nI_clamp (by omega)]
  refine eb_bdE fun m8 e8 => ?_
  have g8 : eb_RG a m m8 := ⟨fun r q1 q2 q3 q4 q5 q6 q7 q8 q9 => by rw [e8, eb_stA _ _ _ q5, f2 r q5, l5 r q7 q8 q9], fun i _ _ => by rw [e8, eb_stA _ _ _ (by decide), f2 16 (by decide), l5 16 (by omega) (by omega) (by omega)]⟩
  have w0 : eb_way w (nI b) 0 = (upd (fun _ => 0) (16 * tp + tv) 1, 0, fun _ => 0) := by
    rw [eb_way, h8, h7, nI_clamp (by omega), nI_clamp (by omega)]
  have here0 : ∀ p, p < 208 → m8 77 p = (eb_way w (nI b) 0).1 p := fun p hp => by
    rw [w0, e8, eb_sts]
    by_cases q : p = 16 * tp + tv
    · rw [if_pos ⟨rfl, q⟩, q]
      show (1 : Int32) = upd (fun _ => (0 : Int32)) (16 * tp + tv) 1 (16 * tp + tv)
      rw [pk_us]
    · rw [if_neg (fun y => q y.2), f1 p hp]
      show (0 : Int32) = upd (fun _ => (0 : Int32)) (16 * tp + tv) 1 p
      rw [pk_un q]
  have ro0 : eb_RO m8 a w (eb_way w (nI b) 0) := by
    rw [w0]
    refine ⟨?_, fun j hj => ?_, fun j hj => ?_⟩
    · rw [e8, eb_stA _ _ _ (by omega), f2 a (by omega)]; exact l1
    · rw [e8, eb_stA _ _ _ (by omega), f2 _ (by omega)]; exact l3 j hj
    · rw [e8, eb_stA _ _ _ (by omega), f2 _ (by omega), eb_gd_0]; exact l4 (j + 1) (by omega)
  have al0 : m8 a 1 = 0 := by rw [e8, eb_stA _ _ _ (by omega), f2 a (by omega)]; exact l2
  refine eb_bind (eb_for (Q := fun z => eb_RG a m z ∧ z a 1 = 0 ∧ (∀ p, p < 208 → z 77 p = (eb_way w (nI b) 8).1 p) ∧ eb_RO z a w (eb_way w (nI b) 8)) 8 (fun k t => t.1 = nI (k + 1) ∧ eb_RG a m t.2 ∧ t.2 a 1 = 0 ∧ (∀ p, p < 208 → t.2 77 p = (eb_way w (nI b) k).1 p) ∧ eb_RO t.2 a w (eb_way w (nI b) k)) ?_ ?_ (by decide) ⟨rfl, g8, al0, here0, ro0⟩) fun x44 hx44 => ?_
  · rintro k ⟨t1, mm⟩ hk ⟨g1, g2, g3, g4, g5⟩
    have g1 : t1 = nI (k + 1) := g1
    subst g1
    have g2 : eb_RG a m mm := g2
    have g3 : mm a 1 = 0 := g3
    have g4 : ∀ p, p < 208 → mm 77 p = (eb_way w (nI b) k).1 p := g4
    have g5 : eb_RO mm a w (eb_way w (nI b) k) := g5
    obtain ⟨W, eW⟩ : ∃ W, W = eb_way w (nI b) k := ⟨_, rfl⟩
    rw [← eW] at g4 g5
    have nx := eb_way_s w (nI b) k
    rw [← eW] at nx
    unfold f_X10_reckon_s44
    dsimp only
    rw [if_neg (show ¬ (8 : Int32) < nI (k + 1) from nI_nlt (a := 8) (by omega) (by decide))]
    refine eb_cl (eb_fillA 78 208 (by decide) mm) fun r10 m9 h9 => ?_
    dsimp only at h9
    obtain ⟨u1, u2⟩ := h9
    have rg9 : eb_RG a mm m9 := ⟨fun r _ _ _ _ _ q6 _ _ _ => u2 r q6, fun i _ _ => by rw [u2 16 (by decide)]⟩
    have rd9 : eb_RD m9 a w (fun _ => 0, W.2.1, W.2.2) := by
      refine ⟨fun p hp => u1 p hp, ?_, fun j hj => ?_, fun j hj => ?_⟩
      · rw [u2 a (by omega)]; exact g5.1
      · rw [u2 (a + 1) (by omega)]; exact g5.2.1 j hj
      · rw [u2 (a + 2) (by omega)]; exact g5.2.2 j hj
    refine eb_bind (eb_placesA (s44 := (nI (k + 1), mm)) rfl ha hk hn hb (eb_A_RG ha hA (eb_RG_trans g2 rg9)) hf ht h1 h2 (here := W.1) (fun p hp => by rw [u2 77 (by decide)]; exact g4 p hp) rd9) fun x62 hx => ?_
    rw [← nx] at hx
    obtain ⟨v1, v2, v3, v4, v5⟩ := hx
    refine eb_upA fun m16 w1 w2 => eb_some ⟨nI_1 _, eb_RG_trans g2 (eb_RG_trans rg9 (eb_RG_trans (eb_RG_RF v1) ⟨fun r _ _ _ _ q5 _ _ _ _ => w1 r q5, fun i _ _ => congrFun (w1 16 (by decide)) i⟩)), ?_, fun p hp => ?_, ?_, fun j hj => ?_, fun j hj => ?_⟩
    · show m16 a 1 = 0
      rw [w1 a (by omega), v1.2.2, u2 a (by omega)]; exact g3
    · show m16 77 p = _
      rw [w2 p hp]; exact v2 p hp
    · show m16 a 0 = _
      rw [w1 a (by omega)]; exact v3
    · show m16 (a + 1) j = _
      rw [w1 (a + 1) (by omega)]; exact v4 j hj
    · show m16 (a + 2) (j + 1) = _
      rw [w1 (a + 2) (by omega)]; exact v5 j hj
  · rintro ⟨t1, mm⟩ ⟨g1, g2⟩
    have g1 : t1 = nI 9 := g1
    subst g1
    unfold f_X10_reckon_s44
    rw [if_pos (show (8 : Int32) < nI 9 by decide)]
    exact eb_some g2
  · obtain ⟨q1, q2, q3, q4⟩ := hx44
    obtain ⟨W, eW⟩ : ∃ W, W = eb_way w (nI b) 8 := ⟨_, rfl⟩
    rw [← eW] at q3 q4
    refine eb_bind (eb_for (Q := fun z => eb_RG a m z ∧ z a 1 = eb_S (fun i => W.1 (16 + i)) 192 ∧ eb_RO z a w W) 192 (fun i t => t.1 = nI (16 + i) ∧ (∀ r, r ≠ a → t.2 r = x44 r) ∧ t.2 a 0 = x44 a 0 ∧ t.2 a 1 = eb_S (fun i => W.1 (16 + i)) i) ?_ ?_ (by decide) ⟨rfl, fun _ _ => rfl, rfl, q2⟩) fun z hz => eb_some ⟨hz.1, ?_⟩
    · rintro i ⟨t1, mm⟩ hi ⟨g1, g2, g3, g4⟩
      have g1 : t1 = nI (16 + i) := g1
      subst g1
      have g2 : ∀ r, r ≠ a → mm r = x44 r := g2
      have g3 : mm a 0 = x44 a 0 := g3
      have g4 : mm a 1 = eb_S (fun i => W.1 (16 + i)) i := g4
      unfold f_X10_reckon_s124
      dsimp only
      rw [if_neg (show ¬ (208 : Int32) ≤ nI (16 + i) from nI_ge (b := 208) (by omega) (by decide)), g4, eb_bdR, eb_gN (by omega) (by decide), eb_bdR, nI_clamp (by omega), g2 77 (by omega), q3 _ (by omega), nI_1]
      refine eb_bdE fun m19 e19 => eb_some ⟨rfl, fun r hr => ?_, ?_, ?_⟩
      · show m19 r = _
        rw [e19, eb_stA _ _ _ hr]; exact g2 r hr
      · show m19 a 0 = _
        rw [e19, eb_stI _ _ _ (by decide)]; exact g3
      · show m19 a 1 = eb_S (fun i => W.1 (16 + i)) i + W.1 (16 + i)
        rw [e19, eb_st]
    · rintro ⟨t1, mm⟩ ⟨g1, g2, g3, g4⟩
      have g1 : t1 = nI 208 := g1
      subst g1
      have g2 : ∀ r, r ≠ a → mm r = x44 r := g2
      have g3 : mm a 0 = x44 a 0 := g3
      unfold f_X10_reckon_s124
      rw [if_pos (show (208 : Int32) ≤ nI 208 by decide)]
      refine eb_some ⟨⟨fun r p1 p2 p3 p4 p5 p6 p7 p8 p9 => ?_, fun i p1 p2 => ?_⟩, g4, ?_, fun j hj => ?_, fun j hj => ?_⟩
      · show mm r = _
        rw [g2 r p7, q1.1 r p1 p2 p3 p4 p5 p6 p7 p8 p9]
      · show mm 16 i = _
        rw [g2 16 (by omega)]; exact q1.2 i p1 p2
      · show mm a 0 = _
        rw [g3]; exact q4.1
      · show mm (a + 1) j = _
        rw [g2 (a + 1) (by omega)]; exact q4.2.1 j hj
      · show mm (a + 2) (j + 1) = _
        rw [g2 (a + 2) (by omega)]; exact q4.2.2 j hj
    · obtain ⟨_, y2, y3, y4, y5⟩ := hz
      have eo : eb_off w (nI b) = W.2.1 := by unfold eb_off; rw [← eW]
      have el : eb_lan w (nI b) = W.2.2 := by
        funext j
        unfold eb_lan
        rw [← eW]
      have ea : eb_alo w (nI b) = eb_S (fun i => W.1 (16 + i)) 192 := by unfold eb_alo; rw [← eW]
      unfold eb_FT
      rw [eo, ea, el]
      exact ⟨y3, y2, y4, y5⟩
end RECKONB
