section AIR
variable {w : Nat → Int32} {m mm : ea_M}
/-- what the air needs of the class's memory -/
def eb_A (m : ea_M) (w : Nat → Int32) (n : Nat) : Prop := m 2 0 = w 7 ∧ m 2 1 = w 8 ∧ m 2 2 = w 9 ∧ m 2 3 = w 10 ∧ m 2 4 = w 6 ∧ (∀ l, l < 13 → m 3 l = w (13 + l)) ∧ (∀ b, b < n → m 4 b = w (26 + 4 * b) ∧ m 5 b = w (27 + 4 * b)) ∧ eb_LR (eb_ct m 16) w
theorem eb_A_of (h : eb_I m) : eb_A m (m 273) (eb_b (m 273)) := by
  obtain ⟨⟨a1, a2, a3, a4, a5, a6, a7, a8, a9, a10, a11, a12⟩, b, h3, h4, h5, h6, h7⟩ := h.1.1
  exact ⟨a1, a2, a3, a4, a5, h3, fun b hb => ⟨(h4 b hb).1, (h4 b hb).2.1⟩, h.1.2.1⟩
/-- the class's rows that weighing leaves alone -/
def eb_WF (m m' : ea_M) : Prop := (∀ r, r ≠ 16 → r ≠ 22 → r ≠ 23 → r ≠ 73 → m' r = m r) ∧ (∀ i, i ≠ 2 → i ≠ 3 → m' 16 i = m 16 i) ∧ ∀ i, i ≠ 4 → i ≠ 5 → m' 73 i = m 73 i
theorem eb_WF_trans {m1 m2 m3 : ea_M} (h1 : eb_WF m1 m2) (h2 : eb_WF m2 m3) : eb_WF m1 m3 := ⟨fun r a b c d => (h2.1 r a b c d).trans (h1.1 r a b c d), fun i a b => (h2.2.1 i a b).trans (h1.2.1 i a b), fun i a b => (h2.2.2 i a b).trans (h1.2.2 i a b)⟩
theorem eb_A_WF {n : Nat} (h : eb_A m w n) (hf : eb_WF m mm) : eb_A mm w n := by
  obtain ⟨h1, h2, h3, h4, h5, h6, h7, h8⟩ := h
  have e2 : mm 2 = m 2 := hf.1 2 (by decide) (by decide) (by decide) (by decide)
  have e3 : mm 3 = m 3 := hf.1 3 (by decide) (by decide) (by decide) (by decide)
  have e4 : mm 4 = m 4 := hf.1 4 (by decide) (by decide) (by decide) (by decide)
  have e5 : mm 5 = m 5 := hf.1 5 (by decide) (by decide) (by decide) (by decide)
  unfold eb_A
  rw [e2, e3, e4, e5]
  exact ⟨h1, h2, h3, h4, h5, h6, h7, eb_LR_cg (l := eb_ct m 16) (l' := eb_ct mm 16) (hf.2.1 0 (by decide) (by decide)) (hf.2.1 1 (by decide) (by decide)) (fun i j _ _ _ => congrFun (hf.1 (16 + i) (by omega) (by omega) (by omega) (by omega)) j) (fun j _ _ => congrFun (hf.1 21 (by decide) (by decide) (by decide) (by decide)) j) rfl (fun _ _ _ => rfl) h8⟩
theorem eb_isYardA (co : Int32) (m : ea_M) : f_X2_isYard 2 co m = some (if m 2 2 ≤ co ∧ co ≤ m 2 3 then 1 else 0, m) := by
  unfold f_X2_isYard
  rw [eb_bdR]
  by_cases q1 : co < m 2 2
  · rw [if_pos q1, if_neg (fun z => absurd q1 (Int32.not_lt.mpr z.1))]
  · rw [if_neg q1, eb_bdR]
    by_cases q2 : m 2 3 < co
    · rw [if_pos q2, if_neg (fun z => absurd q2 (Int32.not_lt.mpr z.2))]
    · rw [if_neg q2, if_pos ⟨Int32.not_lt.mp q1, Int32.not_lt.mp q2⟩]
theorem eb_weigh0 {n b v : Nat} {co br : Int32} (h : eb_A m w n) (hn : n ≤ 6) (hb : b < n) (hv : v < 13) : eb_W (f_X0_weigh (nI b) (nI v) co br m) (fun z => eb_WF m z.2 ∧ z.2 73 4 = eb_sk w (nI b) (nI v) co br ∧ z.2 73 5 = eb_cr w (nI b) (nI v) co br) := by
  have hA := h
  obtain ⟨h1, h2, h3, h4, h5, h6, h7, h8⟩ := h
  obtain ⟨f01, f02⟩ := eb_fact01 w (nI b) (nI v) co br
  have key : ∀ mm : ea_M, (∀ r, r ≠ 22 → mm r = m r) → (∀ f, f < 7 → mm 22 f = eb_fact w (nI b) (nI v) co br f) → eb_W (f_X0_weigh_j132 (nI b) (nI v) (w (27 + 4 * b)) 7 (eb_fact w (nI b) (nI v) co br 7) mm) (fun z => eb_WF m z.2 ∧ z.2 73 4 = eb_sk w (nI b) (nI v) co br ∧ z.2 73 5 = eb_cr w (nI b) (nI v) co br) := by
    intro mm g1 g2
    unfold f_X0_weigh_j132
    rw [show (7 : Int32) = nI 7 from rfl, eb_gN (by decide) (by decide), eb_bdR, nI_clamp (by decide)]
    refine eb_cl (eb_weigh7 (m := ea_st mm 22 7 (eb_fact w (nI b) (nI v) co br 7)) (w := w) (F := eb_fact w (nI b) (nI v) co br) ?_ (fun f hf => ?_) f01 f02) fun r m22 hz => ?_
    · refine eb_LR_cg (l := eb_ct m 16) (l' := eb_ct (ea_st mm 22 7 (eb_fact w (nI b) (nI v) co br 7)) 16) ?_ ?_ (fun i j _ _ _ => ?_) (fun j _ _ => ?_) rfl (fun _ _ _ => rfl) h8
      · show ea_st mm 22 7 _ 16 0 = m 16 0
        rw [eb_stA _ _ _ (by decide), g1 16 (by decide)]
      · show ea_st mm 22 7 _ 16 1 = m 16 1
        rw [eb_stA _ _ _ (by decide), g1 16 (by decide)]
      · show ea_st mm 22 7 _ (16 + i) j = m (16 + i) j
        rw [eb_stA _ _ _ (by omega), g1 _ (by omega)]
      · show ea_st mm 22 7 _ 21 j = m 21 j
        rw [eb_stA _ _ _ (by omega), g1 _ (by omega)]
    · by_cases q : f = 7
      · subst q
        exact eb_st _ _ _ _
      · rw [eb_stI _ _ _ q]
        exact g2 f (by omega)
    · dsimp only at hz
      obtain ⟨z1, z2, z3, z4⟩ := hz
      have k : ∀ r, r ≠ 16 → r ≠ 22 → r ≠ 23 → m22 r = m r := fun r q1 q2 q3 => by
        rw [z1 r q1 q3, eb_stA _ _ _ q2, g1 r q2]
      have k4 : m22 4 b = w (26 + 4 * b) := by rw [k 4 (by decide) (by decide) (by decide)]; exact (h7 b hb).1
      have k3 : m22 3 v = w (13 + v) := by rw [k 3 (by decide) (by decide) (by decide)]; exact h6 v hv
      rw [eb_gN (by omega) (by decide), eb_bdR, nI_clamp (by omega), k4, z3, eb_bdR, eb_as1, eb_bdR, eb_bdR, eb_bdR, eb_gN hv (by decide), eb_bdR, nI_clamp (by omega), eb_stA _ _ _ (by decide), eb_stA _ _ _ (by decide), k3, z4, eb_bdR, eb_as1, eb_bdR, eb_bdR]
      obtain ⟨x, ex⟩ : ∃ x, x = ea_max 0 (ea_min 12 (w (26 + 4 * b) + eb_sum w (eb_fact w (nI b) (nI v) co br) 0 - eb_sum w (eb_fact w (nI b) (nI v) co br) 1)) := ⟨_, rfl⟩
      obtain ⟨y, ey⟩ : ∃ y, y = w (13 + v) * w (27 + 4 * b) + eb_sum w (eb_fact w (nI b) (nI v) co br) 2 - eb_sum w (eb_fact w (nI b) (nI v) co br) 3 := ⟨_, rfl⟩
      rw [← ex, ← ey]
      refine eb_some ⟨⟨fun r q1 q2 q3 q4 => ?_, fun i q1 q2 => ?_, fun i q1 q2 => ?_⟩, ?_, ?_⟩
      · show ea_st (ea_st m22 73 4 x) 73 5 y r = _
        rw [eb_stA _ _ _ q4, eb_stA _ _ _ q4]
        exact k r q1 q2 q3
      · show ea_st (ea_st m22 73 4 x) 73 5 y 16 i = _
        rw [eb_stA _ _ _ (by decide), eb_stA _ _ _ (by decide), z2 i q1 q2, eb_stA _ _ _ (by decide), g1 16 (by decide)]
      · show ea_st (ea_st m22 73 4 x) 73 5 y 73 i = _
        rw [eb_stI _ _ _ q2, eb_stI _ _ _ q1, k 73 (by decide) (by decide) (by decide)]
      · show ea_st (ea_st m22 73 4 x) 73 5 y 73 4 = _
        rw [eb_stI _ _ _ (by decide), eb_st, ex]
        unfold eb_sk
        rw [nI_clamp (by omega)]
      · show ea_st (ea_st m22 73 4 x) 73 5 y 73 5 = _
        rw [eb_st, ey]
        unfold eb_cr
        rw [nI_clamp (show b < 2 ^ 31 by omega), nI_clamp (show v < 2 ^ 31 by omega)]
  unfold f_X0_weigh
  rw [eb_gN (by omega) (by decide), eb_bdR, nI_clamp (by omega), (h7 b hb).2]
  refine eb_bdE fun m2 e2 => eb_bdE fun m3 e3 => eb_bdE fun m4 e4 => eb_bdE fun m5 e5 => ?_
  have r5 : ∀ r, r ≠ 22 → m5 r = m r := fun r hr => by rw [e5, eb_stA _ _ _ hr, e4, eb_stA _ _ _ hr, e3, eb_stA _ _ _ hr, e2, eb_stA _ _ _ hr]
  refine eb_bdV (w := w 6) (by rw [r5 2 (by decide)]; exact h5) (eb_bdE fun m7 e7 => eb_bdE fun m8 e8 => ?_)
  have r8 : ∀ r, r ≠ 22 → m8 r = m r := fun r hr => by rw [e8, eb_stA _ _ _ hr, e7, eb_stA _ _ _ hr, r5 r hr]
  have f8 : ∀ f, f < 6 → m8 22 f = eb_fact w (nI b) (nI v) co br f := fun f hf => by
    obtain rfl | rfl | rfl | rfl | rfl | rfl : f = 0 ∨ f = 1 ∨ f = 2 ∨ f = 3 ∨ f = 4 ∨ f = 5 := by omega
    · rw [e8, eb_stI _ _ _ (by decide), e7, eb_stI _ _ _ (by decide), e5, eb_stI _ _ _ (by decide), e4, eb_stI _ _ _ (by decide), e3, eb_stI _ _ _ (by decide), e2, eb_st]; rfl
    · rw [e8, eb_stI _ _ _ (by decide), e7, eb_stI _ _ _ (by decide), e5, eb_stI _ _ _ (by decide), e4, eb_stI _ _ _ (by decide), e3, eb_st]; rfl
    · rw [e8, eb_stI _ _ _ (by decide), e7, eb_stI _ _ _ (by decide), e5, eb_stI _ _ _ (by decide), e4, eb_st]; rfl
    · rw [e8, eb_stI _ _ _ (by decide), e7, eb_stI _ _ _ (by decide), e5, eb_st]
      show _ = w (27 + 4 * (nI b).toNatClampNeg)
      rw [nI_clamp (by omega)]
    · rw [e8, eb_stI _ _ _ (by decide), e7, eb_st]; rfl
    · rw [e8, eb_st]; rfl
  clear e2 e3 e4 e5 e7 e8 r5
  refine eb_bdV (w := w 8) (by rw [r8 2 (by decide)]; exact h2) ?_
  have fin : ∀ x : Int32, x = eb_fact w (nI b) (nI v) co br 6 → eb_W (f_X0_weigh_j106 (nI b) (nI v) co (w (27 + 4 * b)) 6 x m8) (fun z => eb_WF m z.2 ∧ z.2 73 4 = eb_sk w (nI b) (nI v) co br ∧ z.2 73 5 = eb_cr w (nI b) (nI v) co br) := fun x hx => by
    unfold f_X0_weigh_j106
    rw [show (6 : Int32) = nI 6 from rfl, eb_gN (by decide) (by decide), eb_bdR, nI_clamp (by decide), eb_isYardA, eb_clR, eb_stA _ _ _ (by decide), r8 2 (by decide), h3, h4]
    have kk := key (ea_st m8 22 6 x) (fun r hr => by rw [eb_stA _ _ _ hr]; exact r8 r hr) (fun f hf => by
      by_cases q : f = 6
      · subst q
        rw [eb_st, hx]
      · rw [eb_stI _ _ _ q]
        exact f8 f (by omega))
    have e7 : eb_fact w (nI b) (nI v) co br 7 = if w 9 ≤ co ∧ co ≤ w 10 then 1 else 0 := rfl
    rw [e7] at kk
    by_cases q : w 9 ≤ co ∧ co ≤ w 10
    · rw [if_pos q] at kk ⊢
      rw [if_neg eb_ne10]
      exact kk
    · rw [if_neg q] at kk ⊢
      rw [if_pos rfl]
      exact kk
  have e6 : eb_fact w (nI b) (nI v) co br 6 = if w 8 / 2 < nI v then 1 else 0 := rfl
  refine eb_ite (fun q => fin 0 ?_) fun q => fin 1 ?_
  · rw [e6, if_neg (Int32.not_lt.mpr q)]
  · rw [e6, if_pos (Int32.not_le.mp q)]
/-! the reference -/
theorem eb_sumM {l : Nat → Nat → Int32} {b : Nat} {lv co br : Int32} (hB : eb_B m w b lv co br) (hb : b < 6) (hL : eb_LR l w) (kd : Int32) : eb_W (f_X12_sumOf kd m) (fun z => z.1 = eb_sum w (eb_fact w (nI b) lv co br) kd ∧ ∀ r, r ≠ 280 → z.2 r = m r) := by
  obtain ⟨F, eF⟩ : ∃ F, F = eb_fact w (nI b) lv co br := ⟨_, rfl⟩
  rw [← eF]
  unfold f_X12_sumOf
  rcases hL with ⟨a, _, _⟩ | ⟨a, n, len, hn, hlen, a0, a1, a2, a3, a4⟩
  · have eln : eb_ln w = 0 := by unfold eb_ln; rw [a]; rfl
    have q : f_X12_sumOf_s4 kd (0, 0, m) = some (.inr (0, m)) := by
      unfold f_X12_sumOf_s4
      dsimp only
      rw [hB.1, a, eb_bdR, if_neg (by decide)]
    rw [show (ea_fuel : Nat) = 99999 + 1 from rfl, eb_loop_inr q, eb_obR, eb_sumG, eln]
    exact eb_some ⟨rfl, fun _ _ => rfl⟩
  · have eln : eb_ln w = n := by unfold eb_ln; rw [if_pos a, a1]; exact nI_clamp (by omega)
    rw [eb_sumG, eln]
    refine eb_bind (eb_for (Q := fun z => z.1 = eb_F (eb_G w F kd) 0 n ∧ ∀ r, r ≠ 280 → z.2 r = m r) n (fun k t => t.1 = eb_F (eb_G w F kd) 0 k ∧ t.2.1 = nI k ∧ ∀ r, r ≠ 280 → t.2.2 r = m r) ?_ ?_ (by unfold ea_fuel; omega) ⟨rfl, rfl, fun _ _ => rfl⟩) fun z hz => eb_some hz
    · rintro k ⟨t1, t2, mm⟩ hk ⟨g1, g2, g3⟩
      have g1 : t1 = eb_F (eb_G w F kd) 0 k := g1
      have g2 : t2 = nI k := g2
      subst g1 g2
      have g3 : ∀ r, r ≠ 280 → mm r = m r := g3
      obtain ⟨b1, ⟨kk, hkd, ekd⟩, b3, bb, s, c1, c2, c3, c4, c5, c6, c7⟩ := a4 k hk
      have nx : eb_F (eb_G w F kd) 0 (k + 1) = eb_G w F kd k (eb_F (eb_G w F kd) 0 k) := rfl
      have x1 : (483 : Int32) + 4 * nI k = nI (483 + 4 * k) := by
        show nI 483 + nI 4 * nI k = _
        rw [pk_mul, nI_add]
      have x2 : nI (483 + 4 * k) + 1 = nI (484 + 4 * k) := by
        rw [nI_1, show 483 + 4 * k + 1 = 484 + 4 * k by omega]
      have w273 : mm 273 = w := (g3 273 (by decide)).trans hB.1
      unfold f_X12_sumOf_s4 f_X12_sumOf_j67
      dsimp only
      rw [w273, a, eb_bdR, if_pos rfl, a1, eb_bdR, if_neg (nI_ge hk (by omega)), x1, eb_bdR, eb_gN (by omega) (by decide), eb_bdR, nI_clamp (by omega)]
      by_cases q1 : w (483 + 4 * k) = kd
      · rw [if_pos q1]
        refine eb_cl (eb_holdsM (m := mm) (w := w) (k := k) (b0 := b) (lv := lv) (co := co) (br := br) (len := len) (by omega) c1 c2 hlen c4 c6 a3 (by unfold eb_B; rw [g3 273 (by decide), g3 272 (by decide)]; exact hB) hb c7) fun r m5 hz => ?_
        dsimp only at hz
        obtain ⟨z1, z2⟩ := hz
        rw [← eF] at z2
        have hd := eb_hdE (F := F) c4 c6 c1 (show s ≤ 400 by omega)
        have k2 : ∀ r, r ≠ 280 → m5 r = m r := fun r hr => (z1 r hr).trans (g3 r hr)
        rcases z2 with ⟨z2, z3⟩ | ⟨z2, z3⟩
        · subst z2
          rw [if_neg eb_ne10, eb_bdR, x2, eb_gN (by omega) (by decide), eb_bdR, nI_clamp (by omega), k2 273 (by decide), hB.1, eb_bdR, nI_1]
          refine eb_some ⟨?_, rfl, k2⟩
          rw [nx, eb_GT q1 (hd.mpr z3)]
        · subst z2
          rw [if_pos rfl, nI_1]
          refine eb_some ⟨?_, rfl, k2⟩
          rw [nx, eb_GN (fun y => z3 (hd.mp y.2))]
      · rw [if_neg q1, nI_1]
        refine eb_some ⟨?_, rfl, g3⟩
        rw [nx, eb_GN (fun y => q1 y.1)]
    · rintro ⟨t1, t2, mm⟩ ⟨g1, g2, g3⟩
      have g2 : t2 = nI n := g2
      subst g2
      have g3 : ∀ r, r ≠ 280 → mm r = m r := g3
      have w273 : mm 273 = w := (g3 273 (by decide)).trans hB.1
      unfold f_X12_sumOf_s4
      dsimp only
      rw [w273, a, eb_bdR, if_pos rfl, a1, eb_bdR, if_pos (nI_le (Nat.le_refl _) (by omega))]
      exact eb_some ⟨g1, g3⟩
theorem eb_B_280 {b : Nat} {lv co br : Int32} (h : eb_B m w b lv co br) (hr : ∀ r, r ≠ 280 → mm r = m r) : eb_B mm w b lv co br := by
  unfold eb_B
  rw [hr 273 (by decide), hr 272 (by decide)]
  exact h
theorem eb_sinksM {l : Nat → Nat → Int32} {b : Nat} {lv co br : Int32} (hB : eb_B m w b lv co br) (hb : b < 6) (hL : eb_LR l w) : eb_W (f_X12_sinks m) (fun z => z.1 = eb_sk w (nI b) lv co br ∧ ∀ r, r ≠ 280 → z.2 r = m r) := by
  unfold f_X12_sinks
  rw [hB.2.1, eb_bdR, show (0 : Int32) = nI 0 from rfl, eb_ofBird (by omega), eb_clR, hB.1]
  refine eb_cl (eb_sumM hB hb hL 0) fun r1 m4 h1 => eb_cl (eb_sumM (eb_B_280 hB h1.2) hb hL 1) fun r2 m6 h2 => eb_bd (eb_bd (eb_bd (eb_some ⟨?_, fun r hr => (h2.2 r hr).trans (h1.2 r hr)⟩)))
  have e1 : r1 = eb_sum w (eb_fact w (nI b) lv co br) 0 := h1.1
  have e2 : r2 = eb_sum w (eb_fact w (nI b) lv co br) 1 := h2.1
  subst e1 e2
  unfold eb_sk
  rw [nI_clamp (by omega)]
  rfl
theorem eb_carriesM {l : Nat → Nat → Int32} {b v : Nat} {co br : Int32} (hB : eb_B m w b (nI v) co br) (hb : b < 6) (hv : v < 13) (hL : eb_LR l w) : eb_W (f_X12_carries m) (fun z => z.1 = eb_cr w (nI b) (nI v) co br ∧ ∀ r, r ≠ 280 → z.2 r = m r) := by
  unfold f_X12_carries
  rw [hB.2.2.1, eb_bdR, show (13 : Int32) + nI v = nI (13 + v) from nI_add 13 v, eb_gN (by omega) (by decide), eb_bdR, nI_clamp (by omega), hB.1, hB.2.1, eb_bdR, show (1 : Int32) = nI 1 from rfl, eb_ofBird (by omega), eb_clR, hB.1, show 26 + 4 * b + 1 = 27 + 4 * b by omega]
  refine eb_cl (eb_sumM hB hb hL 2) fun r1 m4 h1 => eb_bd (eb_cl (eb_sumM (eb_B_280 hB h1.2) hb hL 3) fun r2 m6 h2 => eb_some ⟨?_, fun r hr => (h2.2 r hr).trans (h1.2 r hr)⟩)
  have e1 : r1 = eb_sum w (eb_fact w (nI b) (nI v) co br) 2 := h1.1
  have e2 : r2 = eb_sum w (eb_fact w (nI b) (nI v) co br) 3 := h2.1
  subst e1 e2
  unfold eb_cr
  rw [nI_clamp (show b < 2 ^ 31 by omega), nI_clamp (show v < 2 ^ 31 by omega)]
end AIR
