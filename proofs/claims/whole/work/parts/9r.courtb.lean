section COURTB
variable {c : Nat → Nat} {L p n : Nat} {m m0 : ea_M} {w : Nat → Int32}
theorem et_ltN {v n : Nat} (hv : v ≤ 999) (hn : n ≤ 12) (h : nI v ≤ nI n - 1) : v < n := by
  have h1 : (nI n - 1).toInt = (n : Int) - 1 := pk_sub_toInt (a := n) (b := 1) (by omega) (by decide)
  rw [eb_le_iff, h1, nI_toInt (by omega)] at h
  omega
def et_wC (w : Nat → Int32) (n b : Nat) (c : Nat → Nat) (s : Nat) : Nat → Int32 := fun j => if j = 1 then nI (n + 1) else if 50 + 6 * n ≤ j ∧ j < 50 + 6 * n + b then nI (c (s + (j - 50 - 6 * n)) - 48) else w j
def et_oCounsel (c : Nat → Nat) (L p : Nat) (w : Nat → Int32) : et_Out := if et_kd c L (et_sb c L p) = 2 ∧ et_te c L p = et_sb c L p + eb_b w then .inr (et_te c L p, et_wC w (eb_nc w) (eb_b w) c (et_sb c L p)) else .inl (et_sb c L p)
theorem et_cCounsel (hL : L ≤ 400) (hS : et_S c L 47 m p) (hC : eb_C (eb_ct m 24) w) (hf : et_CF m0 m) : eb_W (f_X3_takesCounsel m) (et_CO c L m0 (if eb_nc w < 4 then et_oCounsel c L (et_te c L p) w else .inl (et_sb c L p))) := by
  obtain ⟨b, hb⟩ : ∃ b, b = eb_b w := ⟨_, rfl⟩
  obtain ⟨n, hn⟩ : ∃ n, n = eb_nc w := ⟨_, rfl⟩
  have hb6 : b ≤ 6 := by rw [hb]; exact hC.2.1.1.2
  have hn4 : n ≤ 4 := by rw [hn]; exact hC.2.1.2.1.2
  have e8 : m 24 8 = nI b := by
    have h1 : m 24 8 = w 0 := hC.1.2.2.2.2.2.2.2.2.1
    rw [h1, hC.2.1.1.1, hb]
  have e30 : m 30 0 = nI n := by
    have h1 : m 30 0 = w 1 := hC.1.2.2.2.2.2.2.2.2.2.1
    rw [h1, hC.2.1.2.1.1, hn]
  unfold f_X3_takesCounsel
  rw [eb_bdR, e30, ← hn]
  by_cases hn3 : n < 4
  · rw [if_pos (show nI n < 4 from (show nI n < nI 4 from nI_lt hn3 (by decide))), if_pos hn3]
    unfold et_oCounsel
    rw [← hb, ← hn]
    refine et_cStep hL (by decide) hS fun r3 m2 k1 k2 _ => ?_
    have f2 := et_CF_fa hf k1
    have d2 : ∀ i j, i < 14 → m2 (24 + i) j = m (24 + i) j := fun i j hi => by rw [k1 (24 + i) (by omega)]
    have e8' : m2 24 8 = nI b := (d2 0 8 (by decide)).trans e8
    have e30' : m2 30 0 = nI n := (d2 6 0 (by decide)).trans e30
    obtain ⟨s, hs⟩ : ∃ s, s = et_sb c L (et_te c L p) := ⟨_, rfl⟩
    obtain ⟨e, he⟩ : ∃ e, e = et_te c L (et_te c L p) := ⟨_, rfl⟩
    obtain ⟨⟨r0, r1, r2, r3, r4⟩, h6, hT⟩ := id k2
    rw [← hs] at r2 r3 ⊢
    rw [← he] at r4 ⊢
    have hk := et_kd_le (c := c) (L := L) (b := s)
    have hse : s ≤ e ∧ e ≤ L := by
      obtain ⟨s1, s2, _, _⟩ := et_sb_spec (c := c) hL r0
      obtain ⟨e1, e2, _⟩ := et_en_le (c := c) (b := et_sb c L (et_te c L p)) hL s2
      rw [hs, he]
      exact ⟨e1, e2⟩
    have hno : eb_W (f_X3_takesCounsel_j67 m2) (et_CO c L m0 (.inl s)) := by
      unfold f_X3_takesCounsel_j67
      rw [et_refuse k2, eb_clR, eb_gz0, ← hs]
      exact eb_some (et_CO0 (eb_fr_st f2 (Or.inl rfl) _ _) (eb_st _ _ _ _))
    rw [eb_bdR, r2]
    by_cases hk2 : et_kd c L s = 2
    · rw [if_pos (show nI (et_kd c L s) = 2 by rw [hk2]; rfl), eb_bdR, r4, eb_bdR, r3, eb_bdR, e8', pk_sub hse.1]
      by_cases hlen : e = s + b
      · rw [if_pos (by rw [hlen, Nat.add_sub_cancel_left]), if_pos ⟨hk2, hlen⟩]
        obtain ⟨w1, w2, w3, w4⟩ := et_en_w (c := c) (b := s) hL (Or.inr hk2)
        have hen : et_en c L s = e := by rw [he, hs]; rfl
        rw [hen] at w1 w2 w3 w4
        have hd : ∀ i, i < b → 48 ≤ c (s + i) ∧ c (s + i) ≤ 57 := fun i hi => by
          have := w3 (s + i) (by omega) (by omega)
          rw [hk2] at this
          exact (et_kd2.mp this).2
        refine eb_bind (P := fun z => eb_fr (fun x => x = 31) m2 z ∧ ∀ j, z 31 j = if 6 * n ≤ j ∧ j < 6 * n + b then nI (c (s + (j - 6 * n)) - 48) else m2 31 j) (eb_for b (fun i x => x.1 = nI i ∧ eb_fr (fun x => x = 31) m2 x.2 ∧ ∀ j, x.2 31 j = if 6 * n ≤ j ∧ j < 6 * n + i then nI (c (s + (j - 6 * n)) - 48) else m2 31 j) (fun i x hi hI => ?_) (fun x hI => ?_) (by unfold ea_fuel; omega) ⟨rfl, eb_fr_refl _ _, fun j => by rw [if_neg (by omega)]⟩) fun z hz => ?_
        · obtain ⟨x, mm⟩ := x
          obtain ⟨q1, q2, q3⟩ := hI
          dsimp only at q1 q2 q3
          subst q1
          have hc := hd i hi
          unfold f_X3_takesCounsel_s77
          dsimp only
          rw [eb_bdR, q2 24 (by decide), e8', if_neg (nI_ge hi (by omega)), eb_bdR, q2 47 (by decide), r3, nI_add, eb_gN (by omega) (by decide), eb_bdR, q2 1 (by decide), nI_clamp (by omega), (hT _ (by omega)).2, eb_bdR, show nI (c (s + i)) - 48 = nI (c (s + i) - 48) from pk_sub (b := 48) hc.1, eb_bdR, q2 30 (by decide), e30', eb_bdR, show nI n * 6 + nI i = nI (6 * n + i) by show nI n * nI 6 + nI i = _; rw [pk_mul, nI_add, Nat.mul_comm], eb_gN (by omega) (by decide), nI_clamp (by omega), eb_bdR, nI_1]
          refine eb_some ⟨rfl, eb_fr_st q2 rfl _ _, fun j => ?_⟩
          show ea_st mm 31 (6 * n + i) _ 31 j = _
          rw [eb_sts]
          by_cases hj : j = 6 * n + i
          · rw [if_pos ⟨rfl, hj⟩, if_pos (by omega), hj, Nat.add_sub_cancel_left]
          · rw [if_neg (fun z => hj z.2), q3]
            by_cases hj2 : 6 * n ≤ j ∧ j < 6 * n + i
            · rw [if_pos hj2, if_pos (by omega)]
            · rw [if_neg hj2, if_neg (by omega)]
        · obtain ⟨x, mm⟩ := x
          obtain ⟨q1, q2, q3⟩ := hI
          dsimp only at q1 q2 q3
          subst q1
          unfold f_X3_takesCounsel_s77
          dsimp only
          rw [eb_bdR, q2 24 (by decide), e8', if_pos (nI_le (Nat.le_refl _) (by omega))]
          exact eb_some ⟨q2, q3⟩
        · obtain ⟨z1, z2⟩ := hz
          have Sz : et_S c L 47 z (et_te c L p) := et_S_fr k2 (z1 47 (by decide)) (z1 1 (by decide))
          refine eb_bdV (w := nI n) (by rw [z1 30 (by decide)]; exact e30') (eb_bdE fun m16 e16 => ?_)
          have f16 : et_CF m0 m16 := by rw [e16]; exact et_CF_st (eb_fr_trans f2 (eb_fr_sub z1 fun a ha => Or.inr (by omega))) (by decide) _ _
          have S16 : et_S c L 47 m16 (et_te c L p) := by rw [e16]; exact et_S47 Sz (by decide) _ _
          refine et_cStep hL (by decide) S16 fun r18 m17 g1 g2 _ => ?_
          rw [he]
          have d17 : ∀ i j, i < 14 → m17 (24 + i) j = if i = 6 ∧ j = 0 then nI (n + 1) else if i = 7 ∧ 6 * n ≤ j ∧ j < 6 * n + b then nI (c (s + (j - 6 * n)) - 48) else m (24 + i) j := fun i j hi => by
            rw [g1 (24 + i) (by omega), e16, eb_sts, nI_1]
            by_cases q : i = 6 ∧ j = 0
            · rw [if_pos q, if_pos (by omega)]
            · rw [if_neg q, if_neg (by omega)]
              by_cases q7 : i = 7
              · subst q7
                rw [show 24 + 7 = 31 from rfl, z2]
                by_cases qj : 6 * n ≤ j ∧ j < 6 * n + b
                · rw [if_pos qj, if_pos ⟨rfl, qj⟩]
                · rw [if_neg qj, if_neg (fun z => qj z.2)]
                  exact d2 7 j (by decide)
              · rw [if_neg (fun z => q7 z.1), z1 (24 + i) (by omega), d2 i j hi]
          refine eb_some (et_CO1 (et_CF_fa f16 g1) g2 (et_C_counsel (n := n) hC hn.symm hn3 (fun i j h14 hij hij2 => ?_) ?_ (fun j h1 h2 => ?_) ?_ (fun b' hb' => ?_)))
          · show m17 (24 + i) j = m (24 + i) j
            rw [d17 i j h14, if_neg hij2, if_neg (by omega)]
          · show m17 (24 + 6) 0 = _
            rw [d17 6 0 (by decide), if_pos ⟨rfl, rfl⟩]
          · unfold et_wC
            rw [if_neg h2, if_neg (by omega)]
          · exact if_pos rfl
          · rw [← hb]
            have e1 : eb_ct m17 24 7 (6 * n + b') = if b' < b then nI (c (s + b') - 48) else m 31 (6 * n + b') := by
              show m17 (24 + 7) (6 * n + b') = _
              rw [d17 7 _ (by decide), if_neg (by omega)]
              by_cases q : b' < b
              · rw [if_pos (by omega), if_pos q, Nat.add_sub_cancel_left]
              · rw [if_neg (by omega), if_neg q]
            have e2 : et_wC w n b c s (50 + 6 * n + b') = if b' < b then nI (c (s + b') - 48) else w (50 + 6 * n + b') := by
              unfold et_wC
              rw [if_neg (by omega)]
              by_cases q : b' < b
              · rw [if_pos (by omega), if_pos q, show 50 + 6 * n + b' - 50 - 6 * n = b' by omega]
              · rw [if_neg (by omega), if_neg q]
            obtain ⟨g1, g2, g3⟩ := hC.2.2.2.2.1 n b' hn3 hb'
            rw [e1, e2]
            by_cases q : b' < b
            · rw [if_pos q, if_pos q]
              have := hd b' q
              exact ⟨rfl, ⟨_, by omega, rfl⟩, fun z => by omega⟩
            · rw [if_neg q, if_neg q]
              exact ⟨g1, g2, fun _ => g3 (by omega)⟩
      · rw [if_neg (by rw [nI_eq (by omega) (by omega)]; omega), if_neg (fun z => hlen z.2)]
        exact hno
    · rw [if_neg (show ¬ nI (et_kd c L s) = 2 from (show ¬ nI (et_kd c L s) = nI 2 by rw [nI_eq (by omega) (by decide)]; exact hk2)), if_neg (fun z => hk2 z.1)]
      exact hno
  · rw [if_neg (show ¬ nI n < 4 from (show ¬ nI n < nI 4 from nI_nlt (by omega) (by omega))), if_neg hn3, et_refuse hS, eb_clR, eb_gz0]
    exact eb_some (et_CO0 (eb_fr_st hf (Or.inl rfl) _ _) (eb_st _ _ _ _))
def et_wK (w : Nat → Int32) (k f s : Nat) (x : Int32) : Nat → Int32 := upd (upd (upd (upd (upd w (74 + 4 * k) (nI f)) (75 + 4 * k) (nI s)) (76 + 4 * k) x) (77 + 4 * k) 0) 2 (nI (k + 1))
def et_oCase (c : Nat → Nat) (L p : Nat) (w : Nat → Int32) : et_Out := et_B (et_num c L p 0 (nI (eb_nc w) - 1)) (et_sb c L p) fun f => et_B (et_num c L (et_te c L p) 0 (nI (eb_nc w) - 1)) (et_sb c L (et_te c L p)) fun s => if s = f then .inl (et_sb c L (et_te c L p)) else et_I (et_w c L (et_te c L (et_te c L p)) 7) (et_sb c L (et_te c L (et_te c L p))) (et_B (et_let c L (et_te c L (et_te c L (et_te c L p))) (eb_b w)) (et_sb c L (et_te c L (et_te c L (et_te c L p)))) fun x => .inr ((et_te c L (et_te c L (et_te c L (et_te c L p)))), et_wK w (eb_k w) f s x))
theorem et_cCase (hL : L ≤ 400) (hS : et_S c L 47 m p) (hC : eb_C (eb_ct m 24) w) (hf : et_CF m0 m) : eb_W (f_X3_takesCase m) (et_CO c L m0 (if eb_k w < 12 then et_oCase c L (et_te c L p) w else .inl (et_sb c L p))) := by
  obtain ⟨b, hb⟩ : ∃ b, b = eb_b w := ⟨_, rfl⟩
  obtain ⟨n, hn⟩ : ∃ n, n = eb_nc w := ⟨_, rfl⟩
  obtain ⟨k, hk⟩ : ∃ k, k = eb_k w := ⟨_, rfl⟩
  have hb6 : b ≤ 6 := by rw [hb]; exact hC.2.1.1.2
  have hn4 : n ≤ 4 := by rw [hn]; exact hC.2.1.2.1.2
  have hk12 : k ≤ 12 := by rw [hk]; exact hC.2.1.2.2.1.2
  have e8 : m 24 8 = nI b := by
    have h1 : m 24 8 = w 0 := hC.1.2.2.2.2.2.2.2.2.1
    rw [h1, hC.2.1.1.1, hb]
  have e30 : m 30 0 = nI n := by
    have h1 : m 30 0 = w 1 := hC.1.2.2.2.2.2.2.2.2.2.1
    rw [h1, hC.2.1.2.1.1, hn]
  have e31 : m 30 1 = nI k := by
    have h1 : m 30 1 = w 2 := hC.1.2.2.2.2.2.2.2.2.2.2.1
    rw [h1, hC.2.1.2.2.1.1, hk]
  unfold f_X3_takesCase
  rw [eb_bdR, e31, ← hk]
  by_cases hk11 : k < 12
  · rw [if_pos (show nI k < 12 from (show nI k < nI 12 from nI_lt hk11 (by decide))), if_pos hk11]
    unfold et_oCase
    rw [← hb, ← hn, ← hk]
    have nc : Int32.toNatClampNeg (nI k) = k := nI_clamp (by omega)
    refine et_cStep hL (by decide) hS fun r3 m2 k1 k2 _ => ?_
    have f2 := et_CF_fa hf k1
    have d2 : ∀ i j, i < 14 → m2 (24 + i) j = m (24 + i) j := fun i j hi => by rw [k1 (24 + i) (by omega)]
    refine eb_bdV ((d2 6 0 (by decide)).trans e30) ?_
    refine et_cNum hL (by decide) k2 (fun hn m5 g1 g2 => ?_) (fun f hnf m5 g1 g2 g3 => ?_)
    · rw [if_pos rfl, et_B0 hn]
      exact eb_some (et_CO0 (et_CF_fa f2 g1) g2)
    obtain ⟨v1, v2, v3, v4⟩ := et_num_some hL k2.1.1 hnf
    have vf := et_ltN v1 (by omega) v3
    rw [if_neg (by decide), et_B1 hnf]
    refine eb_bdV g3 (eb_g k hk11 (eb_bdE fun m8 e8m => ?_))
    rw [nc] at e8m
    have f8 : et_CF m0 m8 := by rw [e8m]; exact et_CF_st (et_CF_fa f2 g1) (by decide) _ _
    have S8 := et_S47e g2 e8m (by decide)
    have d8 : ∀ i j, i < 14 → m8 (24 + i) j = if i = 8 ∧ j = k then nI f else m (24 + i) j := fun i j hi => by
      rw [e8m, eb_sts, g1 (24 + i) (by omega), d2 i j hi]
      by_cases q : i = 8 ∧ j = k
      · rw [if_pos q, if_pos (by omega)]
      · rw [if_neg q, if_neg (by omega)]
    clear e8m g1 g2 g3
    have e30' : m8 30 0 = nI n := by
      have := d8 6 0 (by decide)
      rw [if_neg (by omega)] at this
      exact this.trans e30
    refine eb_bdV S8.1.2.2.2.1 (eb_bdV e30' ?_)
    refine et_cNum hL (by decide) S8 (fun hn m5 g1 g2 => ?_) (fun s hns m11 g1 g2 g3 => ?_)
    · rw [if_pos rfl, et_B0 hn]
      exact eb_some (et_CO0 (et_CF_fa f8 g1) g2)
    obtain ⟨u1, u2, u3, u4⟩ := et_num_some hL S8.1.1 hns
    have vs := et_ltN u1 (by omega) u3
    rw [if_neg (by decide), et_B1 hns]
    refine eb_bdV g3 (eb_g k hk11 (eb_bdE fun m14 e14 => ?_))
    rw [nc] at e14
    have f14 : et_CF m0 m14 := by rw [e14]; exact et_CF_st (et_CF_fa f8 g1) (by decide) _ _
    have S14 := et_S47e g2 e14 (by decide)
    have d14 : ∀ i j, i < 14 → m14 (24 + i) j = if i = 9 ∧ j = k then nI s else if i = 8 ∧ j = k then nI f else m (24 + i) j := fun i j hi => by
      rw [e14, eb_sts, g1 (24 + i) (by omega), d8 i j hi]
      by_cases q : i = 9 ∧ j = k
      · rw [if_pos q, if_pos (by omega)]
      · rw [if_neg q, if_neg (by omega)]
    clear e14 g1 g2 g3 d8 f8
    have a33 : m14 33 k = nI s := (d14 9 k (by decide)).trans (if_pos ⟨rfl, rfl⟩)
    have a32 : m14 32 k = nI f := (d14 8 k (by decide)).trans ((if_neg (by omega)).trans (if_pos ⟨rfl, rfl⟩))
    refine eb_g k hk11 (eb_bdV (w := nI s) (by rw [nc]; exact a33) (eb_g k hk11 (eb_bdV (w := nI f) (by rw [nc]; exact a32) ?_)))
    by_cases hsf : s = f
    · rw [if_pos (by rw [hsf]), if_pos hsf]
      refine eb_bd (eb_some (et_CO0 (eb_fr_st f14 (Or.inl rfl) _ _) (eb_st _ _ _ _)))
    rw [if_neg (by rw [nI_eq (by omega) (by omega)]; exact hsf), if_neg hsf]
    refine et_cTakes hL (by decide) (by decide) S14 (fun hw m18 g1 g2 => ?_) (fun hw m18 g1 g2 => ?_)
    · rw [if_pos rfl, et_I0 hw]
      exact eb_some (et_CO0 (et_CF_fa f14 g1) g2)
    rw [if_neg (by decide), et_I1 hw]
    have e8' : m18 24 8 = nI b := by
      rw [g1 24 (by decide)]
      have := d14 0 8 (by decide)
      rw [if_neg (by omega), if_neg (by omega)] at this
      exact this.trans e8
    refine eb_bdV e8' ?_
    refine et_cLet hL (by decide) hb6 g2 (fun hn m21 h1 h2 => ?_) (fun x hnx m21 h1 h2 h3 => ?_)
    · rw [if_pos rfl, et_B0 hn]
      exact eb_some (et_CO0 (et_CF_fa (et_CF_fa f14 g1) h1) h2)
    obtain ⟨y, y1, y2, y3⟩ := et_let_rg hL hb6 hnx
    rw [if_neg (by decide), et_B1 hnx]
    refine eb_bdV h3 (eb_g k hk11 (eb_bdE fun m24 e24 => eb_g k hk11 (eb_bdE fun m25 e25 => ?_)))
    rw [nc] at e24 e25
    have f25 : et_CF m0 m25 := by rw [e25, e24]; exact et_CF_st (et_CF_st (et_CF_fa (et_CF_fa f14 g1) h1) (by decide) _ _) (by decide) _ _
    have S25 := et_S47e (et_S47e h2 e24 (by decide)) e25 (by decide)
    have d25 : ∀ i j, i < 14 → m25 (24 + i) j = if i = 11 ∧ j = k then 0 else if i = 10 ∧ j = k then x else if i = 9 ∧ j = k then nI s else if i = 8 ∧ j = k then nI f else m (24 + i) j := fun i j hi => by
      rw [e25, eb_sts]
      by_cases q : i = 11 ∧ j = k
      · rw [if_pos q, if_pos (by omega)]
      · rw [if_neg q, if_neg (by omega), e24, eb_sts]
        by_cases q : i = 10 ∧ j = k
        · rw [if_pos q, if_pos (by omega)]
        · rw [if_neg q, if_neg (by omega), h1 (24 + i) (by omega), g1 (24 + i) (by omega), d14 i j hi]
    clear e24 e25 d14
    have e31' : m25 30 1 = nI k := by
      have := d25 6 1 (by decide)
      rw [if_neg (by omega), if_neg (by omega), if_neg (by omega), if_neg (by omega)] at this
      exact this.trans e31
    refine eb_bdV e31' (eb_bd (eb_some (et_CO1 (et_CF_st f25 (by decide) _ _) (et_S47 S25 (by decide) _ _) (et_C_case (k := k) (f := f) (s := s) (p := y) hC hk.symm hk11 (by rw [← hn]; exact vf) (by rw [← hn]; exact vs) (fun z => hsf z.symm) y1 (by rw [← hb]; exact y2) (fun i j h14 hij hij2 => ?_) ?_ ?_ ?_ ?_ ?_ (fun j h1 h2 => ?_) ?_ ?_ ?_ ?_ ?_))))
    · show ea_st m25 30 1 _ (24 + i) j = m (24 + i) j
      rw [eb_sts, if_neg (by omega), d25 i j h14, if_neg (by omega), if_neg (by omega), if_neg (by omega), if_neg (by omega)]
    · show ea_st m25 30 1 (nI k + 1) 30 1 = _
      rw [eb_st, nI_1]
    · show ea_st m25 30 1 _ (24 + 8) k = _
      rw [eb_stA _ _ _ (by decide), d25 8 k (by decide), if_neg (by omega), if_neg (by omega), if_neg (by omega), if_pos ⟨rfl, rfl⟩]
    · show ea_st m25 30 1 _ (24 + 9) k = _
      rw [eb_stA _ _ _ (by decide), d25 9 k (by decide), if_neg (by omega), if_neg (by omega), if_pos ⟨rfl, rfl⟩]
    · show ea_st m25 30 1 _ (24 + 10) k = _
      rw [eb_stA _ _ _ (by decide), d25 10 k (by decide), if_neg (by omega), if_pos ⟨rfl, rfl⟩]
      exact y3
    · show ea_st m25 30 1 _ (24 + 11) k = _
      rw [eb_stA _ _ _ (by decide), d25 11 k (by decide), if_pos ⟨rfl, rfl⟩]
    · unfold et_wK
      rw [et_u h2, et_u (by omega), et_u (by omega), et_u (by omega), et_u (by omega)]
    · exact et_us
    · unfold et_wK
      rw [et_u (by omega), et_u (by omega), et_u (by omega), et_u (by omega), et_us]
    · unfold et_wK
      rw [et_u (by omega), et_u (by omega), et_u (by omega), et_us]
    · unfold et_wK
      rw [et_u (by omega), et_u (by omega), et_us]
      exact y3
    · unfold et_wK
      rw [et_u (by omega), et_us]
  · rw [if_neg (show ¬ nI k < 12 from (show ¬ nI k < nI 12 from nI_nlt (by omega) (by omega))), if_neg hk11, et_refuse hS, eb_clR, eb_gz0]
    exact eb_some (et_CO0 (eb_fr_st hf (Or.inl rfl) _ _) (eb_st _ _ _ _))
/-- a line of a text of the court -/
def et_cl (c : Nat → Nat) (L p : Nat) (w : Nat → Int32) : et_Out :=
  if et_w c L p 0 = true then (if eb_b w < 6 then et_oBird c L (et_te c L p) w else .inl (et_sb c L p))
  else if et_w c L p 5 = true then (if eb_nc w < 4 then et_oCounsel c L (et_te c L p) w else .inl (et_sb c L p))
  else if et_w c L p 6 = true then (if eb_k w < 12 then et_oCase c L (et_te c L p) w else .inl (et_sb c L p))
  else if et_w c L p 8 = true then et_oTower c L (et_te c L p) w
  else if et_w c L p 10 = true then et_oYard c L (et_te c L p) w
  else if et_w c L p 12 = true then et_oWind c L (et_te c L p) w
  else et_I (et_w c L p 15) (et_sb c L p) (et_oHour c L (et_te c L p) w)
theorem et_gzO {x : Option (Int32 × ea_M)} {o : et_Out} (h : eb_W x (et_CO c L m0 o)) : eb_W (ea_cl x fun r z => ea_gz r (some (r, z))) (et_CO c L m0 o) := by
  refine eb_bind h fun z hz => ?_
  have h01 : z.1 = 0 ∨ z.1 = 1 := by
    cases o with
    | inl f => exact Or.inl hz.2.1
    | inr q => exact Or.inr hz.2.1
  obtain ⟨r, mm⟩ := z
  dsimp only at h01
  rcases h01 with rfl | rfl
  · exact eb_some hz
  · exact eb_some hz
theorem et_cLine (hL : L ≤ 400) (hS : et_S c L 47 m p) (hC : eb_C (eb_ct m 24) w) (hf : et_CF m0 m) : eb_W (f_X3_takesLine m) (et_CO c L m0 (et_cl c L p w)) := by
  unfold f_X3_takesLine et_cl
  rw [et_sees hL (by decide) hS, eb_clR]
  cases hw0 : et_w c L p 0 with
  | true =>
    rw [show eb_b2 true = 1 from rfl, if_neg (by decide), if_pos rfl]
    exact et_gzO (et_cBird hL hS hC hf)
  | false =>
    rw [show eb_b2 false = 0 from rfl, if_pos rfl, if_neg (by decide), et_sees hL (by decide) hS, eb_clR]
    cases hw5 : et_w c L p 5 with
    | true =>
      rw [show eb_b2 true = 1 from rfl, if_neg (by decide), if_pos rfl]
      exact et_gzO (et_cCounsel hL hS hC hf)
    | false =>
      rw [show eb_b2 false = 0 from rfl, if_pos rfl, if_neg (by decide), et_sees hL (by decide) hS, eb_clR]
      cases hw6 : et_w c L p 6 with
      | true =>
        rw [show eb_b2 true = 1 from rfl, if_neg (by decide), if_pos rfl]
        exact et_gzO (et_cCase hL hS hC hf)
      | false =>
        rw [show eb_b2 false = 0 from rfl, if_pos rfl, if_neg (by decide), et_sees hL (by decide) hS, eb_clR]
        cases hw8 : et_w c L p 8 with
        | true =>
          rw [show eb_b2 true = 1 from rfl, if_neg (by decide), if_pos rfl]
          exact et_gzO (et_cTower hL hS hC hf hw8)
        | false =>
          rw [show eb_b2 false = 0 from rfl, if_pos rfl, if_neg (by decide), et_sees hL (by decide) hS, eb_clR]
          cases hw10 : et_w c L p 10 with
          | true =>
            rw [show eb_b2 true = 1 from rfl, if_neg (by decide), if_pos rfl]
            exact et_gzO (et_cYard hL hS hC hf hw10)
          | false =>
            rw [show eb_b2 false = 0 from rfl, if_pos rfl, if_neg (by decide), et_sees hL (by decide) hS, eb_clR]
            cases hw12 : et_w c L p 12 with
            | true =>
              rw [show eb_b2 true = 1 from rfl, if_neg (by decide), if_pos rfl]
              exact et_gzO (et_cWind hL hS hC hf hw12)
            | false =>
              rw [show eb_b2 false = 0 from rfl, if_pos rfl, if_neg (by decide)]
              exact et_cHour hL hS hC hf
end COURTB
