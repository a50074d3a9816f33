section LAYS
variable {m mm : ea_M} {w : Nat → Int32}
/-- the reference's then, blown, landed -/
def eb_MD (m : ea_M) (d : eb_D) : Prop := (∀ p, p < 208 → m 282 p = d.1 p) ∧ m 272 25 = d.2.1 ∧ ∀ j, j < 128 → m 283 (16 + j) = d.2.2 j
/-- rows that a place's gusts leave alone -/
def eb_MR (m m' : ea_M) : Prop := (∀ r, r ≠ 272 → r ≠ 280 → r ≠ 282 → r ≠ 283 → m' r = m r) ∧ ∀ i, ¬ (18 ≤ i ∧ i ≤ 21) → i ≠ 25 → m' 272 i = m 272 i
theorem eb_MR_trans {m1 m2 m3 : ea_M} (h1 : eb_MR m1 m2) (h2 : eb_MR m2 m3) : eb_MR m1 m3 := ⟨fun r q1 q2 q3 q4 => (h2.1 r q1 q2 q3 q4).trans (h1.1 r q1 q2 q3 q4), fun i q1 q2 => (h2.2 i q1 q2).trans (h1.2 i q1 q2)⟩
theorem eb_leftM {k : Nat} (hk : k < 8) (m : ea_M) : f_X12_waysLeft (nI (k + 1)) m = some (nI (3 ^ (7 - k)), m) := by
  unfold f_X12_waysLeft
  refine eb_loopB (7 - k) (fun i => (nI (3 ^ i), nI (k + 1 + i), m)) (nI (3 ^ (7 - k)), m) rfl (fun i hi => ?_) ?_ (by unfold ea_fuel; omega) rfl
  · unfold f_X12_waysLeft_s4
    dsimp only
    rw [if_neg (show ¬ (8 : Int32) ≤ nI (k + 1 + i) from nI_ge (b := 8) (by omega) (by decide)), show (3 : Int32) = nI 3 from rfl, pk_mul, eb_bdR, nI_1, ← Nat.pow_succ]
    rfl
  · unfold f_X12_waysLeft_s4
    dsimp only
    rw [if_pos (show (8 : Int32) ≤ nI (k + 1 + (7 - k)) from nI_le (a := 8) (by omega) (by omega))]
theorem eb_atE (l c : Nat) (m : ea_M) : f_X12_at (nI l) (nI c) m = some (nI (16 * l + c), m) := by
  unfold f_X12_at
  rw [show (16 : Int32) * nI l + nI c = nI (16 * l + c) by show nI 16 * nI l + nI c = _; rw [pk_mul, nI_add], eb_bdR]
/-- one place's gusts, of the reference -/
theorem eb_goesM {l : Nat → Nat → Int32} {b k v c : Nat} {d : eb_D} {here : Nat → Int32} (hk : k < 8) (hb : b < 6) (hv1 : 1 ≤ v) (hv : v < 13) (hc : c < 16) (h273 : m 273 = w) (h18 : m 272 18 = nI b) (hL : eb_LR l w) (hh : m 281 (16 * v + c) = here (16 * v + c)) (h0 : 0 < here (16 * v + c)) (hd : eb_MD m d) :
    eb_W (f_X12_goesOn (nI v) (nI c) (nI k) m) (fun z => eb_MR m z.2 ∧ z.2 272 18 = nI b ∧ eb_MD z.2 (eb_spr w (nI b) k here (16 * v + c) d)) := by
  obtain ⟨p, ep⟩ : ∃ p, p = 16 * v + c := ⟨_, rfl⟩
  have p1 : p / 16 = v := by omega
  have p2 : p % 16 = c := by omega
  unfold f_X12_goesOn
  rw [eb_atE, eb_clR, ← ep, eb_gN (by omega) (by decide), eb_bdR, nI_clamp (by omega), show m 281 p = here p by rw [ep]; exact hh, h18, eb_bdR, eb_looksE, eb_clR]
  rw [← ep] at h0
  have hB := eb_looksB m b (nI v) (nI c) (nI k)
  rw [h273] at hB
  obtain ⟨m5, e5⟩ : ∃ m5, m5 = ea_st (ea_st (ea_st (ea_st m 272 18 (nI b)) 272 19 (nI v)) 272 20 (nI c)) 272 21 (nI k) := ⟨_, rfl⟩
  rw [← e5] at hB ⊢
  have r5 : ∀ r, r ≠ 272 → m5 r = m r := fun r hr => by rw [e5, eb_stA _ _ _ hr, eb_stA _ _ _ hr, eb_stA _ _ _ hr, eb_stA _ _ _ hr]
  have r5i : ∀ i, ¬ (18 ≤ i ∧ i ≤ 21) → m5 272 i = m 272 i := fun i hi => by rw [e5, eb_stI _ _ _ (by omega), eb_stI _ _ _ (by omega), eb_stI _ _ _ (by omega), eb_stI _ _ _ (by omega)]
  clear e5
  refine eb_cl (eb_sinksM hB hb hL) fun r1 m7 z7 => ?_
  dsimp only at z7
  obtain ⟨z71, z72⟩ := z7
  subst z71
  have hB7 := eb_B_280 hB z72
  rw [eb_bdR]
  refine eb_cl (eb_carriesM hB7 hb hv hL) fun r2 m10 z10 => ?_
  dsimp only at z10
  obtain ⟨z101, z102⟩ := z10
  subst z101
  have hB10 := eb_B_280 hB7 z102
  have k10 : ∀ r, r ≠ 272 → r ≠ 280 → m10 r = m r := fun r q1 q2 => by rw [z102 r q2, z72 r q2, r5 r q1]
  have k10i : ∀ i, ¬ (18 ≤ i ∧ i ≤ 21) → m10 272 i = m 272 i := fun i hi => by rw [z102 272 (by decide), z72 272 (by decide)]; exact r5i i hi
  have mr10 : eb_MR m m10 := ⟨fun r q1 q2 _ _ => k10 r q1 q2, fun i q1 _ => k10i i q1⟩
  have md10 : eb_MD m10 d := by
    unfold eb_MD
    rw [k10 282 (by decide) (by decide), k10i 25 (by omega), k10 283 (by decide) (by decide)]
    exact hd
  have ed : ∀ g, eb_dr w (nI b) g = if 0 < w (27 + 4 * b) then g else 0 := fun g => by
    unfold eb_dr
    rw [nI_clamp (by omega)]
  obtain ⟨SK, eSK⟩ : ∃ SK, SK = eb_sk w (nI b) (nI v) (nI c) (nI k) := ⟨_, rfl⟩
  obtain ⟨CR, eCR⟩ : ∃ CR, CR = eb_cr w (nI b) (nI v) (nI c) (nI k) := ⟨_, rfl⟩
  rw [← eSK, ← eCR]
  have hto : 0 < nI v - SK → ∃ t, t ≤ 12 ∧ nI v - SK = nI t := fun q => by
    obtain ⟨j, hj, ej⟩ := eb_skR w (nI b) (nI v) (nI c) (nI k)
    rw [eSK, ej] at q ⊢
    have := (eb_subN (show v ≤ 12 by omega) hj).mp q
    exact ⟨v - j, by omega, by rw [pk_sub (by omega)]⟩
  have gu : ∀ g d', eb_gu w (nI b) k p (here p) g d' = eb_set k (nI v - SK) (nI c + CR + eb_dr w (nI b) g) (here p) d' := fun g d' => by
    unfold eb_gu
    rw [p1, p2, ← eSK, ← eCR]
  obtain ⟨N, eN⟩ : ∃ N, N = here p := ⟨_, rfl⟩
  rw [← eN]
  obtain ⟨TO, eTO⟩ : ∃ TO, TO = nI v - SK := ⟨_, rfl⟩
  rw [← eTO] at hto ⊢
  have one : ∀ (g g1 : Int32) (d' : eb_D) (m9 : ea_M), ¬ 1 < g → g + 1 = g1 → eb_MR m m9 → m9 272 18 = nI b → eb_MD m9 d' → ∃ m18, f_X12_goesOn_s40 (nI c) (nI k) N TO CR (g, m9) = some (.inl (g1, m18)) ∧ eb_MR m m18 ∧ m18 272 18 = nI b ∧ eb_MD m18 (eb_gu w (nI b) k p (here p) g d') := by
    intro g g1 d' m9 hg hg1 mr k18 md
    have w9 : m9 273 = w := by rw [mr.1 273 (by decide) (by decide) (by decide) (by decide), h273]
    have hdr : f_X12_driftOf (nI b) g m9 = some (eb_dr w (nI b) g, m9) := by
      unfold f_X12_driftOf
      rw [show (1 : Int32) = nI 1 from rfl, eb_ofBird (by omega), eb_clR, w9, show 26 + 4 * b + 1 = 27 + 4 * b by omega, ed]
      by_cases q : w (27 + 4 * b) ≤ 0
      · rw [if_pos q, if_neg (Int32.not_lt.mpr q)]
      · rw [if_neg q, if_pos (Int32.not_le.mp q)]
    obtain ⟨C, eC⟩ : ∃ C, C = nI c + CR + eb_dr w (nI b) g := ⟨_, rfl⟩
    rw [gu, ← eC, ← eTO, ← eN]
    unfold f_X12_goesOn_s40 f_X12_goesOn_j143
    dsimp only
    rw [if_neg hg, k18, eb_bdR, hdr, eb_clR, ← eC, eb_bdR, eb_noColumn, eb_clR, hg1]
    obtain ⟨d1, d2, d3⟩ := md
    have a1 : nI k + 1 = nI (k + 1) := nI_1 k
    by_cases q1 : 0 ≤ C ∧ C < nI 16
    · obtain ⟨cc, hcc, rfl⟩ : ∃ cc, cc < 16 ∧ C = nI cc := by
        rcases pk_ix C (n := 16) (by decide) with z | z | z
        · exact absurd q1.1 (Int32.not_le.mpr z)
        · exact absurd q1.2 (Int32.not_lt.mpr z)
        · exact z
      have nq : ¬ (nI cc < 0 ∨ 16 ≤ nI cc) := fun z => z.elim (fun y => absurd q1.1 (Int32.not_le.mpr y)) (fun y => absurd q1.2 (Int32.not_lt.mpr y))
      rw [if_pos q1, if_pos rfl]
      unfold eb_set
      rw [if_neg nq, nI_clamp (show cc < 2 ^ 31 by omega)]
      by_cases q3 : 0 < TO
      · obtain ⟨t, ht12, rfl⟩ := hto q3
        rw [if_pos q3, if_neg (Int32.not_le.mpr q3), nI_clamp (show t < 2 ^ 31 by omega), eb_atE, eb_clR, eb_gN (by omega) (by decide), eb_bdR, eb_gN (by omega) (by decide), eb_bdR, nI_clamp (by omega), d1 _ (by omega)]
        refine ⟨_, rfl, eb_MR_trans mr ⟨fun r _ _ q3 _ => eb_stA _ _ _ q3, fun i _ _ => by rw [eb_stA _ _ _ (by decide)]⟩, ?_, fun p' hp' => ?_, ?_, fun j hj => ?_⟩
        · rw [eb_stA _ _ _ (by decide)]; exact k18
        · show _ = upd d'.1 (16 * t + cc) (d'.1 (16 * t + cc) + N) p'
          rw [eb_sts]
          by_cases q : p' = 16 * t + cc
          · rw [if_pos ⟨rfl, q⟩, q, pk_us]
          · rw [if_neg (fun y => q y.2), pk_un q]
            exact d1 p' hp'
        · rw [eb_stA _ _ _ (by decide)]; exact d2
        · rw [eb_stA _ _ _ (by decide)]; exact d3 j hj
      · have ix : (16 : Int32) * nI (k + 1) + nI cc = nI (16 + (16 * k + cc)) := by
          show nI 16 * nI (k + 1) + nI cc = _
          rw [pk_mul, nI_add, show 16 * (k + 1) + cc = 16 + (16 * k + cc) by omega]
        rw [if_neg q3, if_pos (Int32.not_lt.mp q3), a1, eb_bdR, ix, eb_gN (by omega) (by decide), eb_bdR, nI_clamp (by omega), d3 _ (by omega), eb_leftM hk, eb_clR, eb_bdR, eb_gN (by omega) (by decide), eb_bdR]
        refine ⟨_, rfl, eb_MR_trans mr ⟨fun r _ _ _ q4 => eb_stA _ _ _ q4, fun i _ _ => by rw [eb_stA _ _ _ (by decide)]⟩, ?_, fun p' hp' => ?_, ?_, fun j hj => ?_⟩
        · rw [eb_stA _ _ _ (by decide)]; exact k18
        · rw [eb_stA _ _ _ (by decide)]; exact d1 p' hp'
        · rw [eb_stA _ _ _ (by decide)]; exact d2
        · show _ = upd d'.2.2 (16 * k + cc) (d'.2.2 (16 * k + cc) + N * nI (3 ^ (7 - k))) j
          rw [eb_sts]
          by_cases q : j = 16 * k + cc
          · rw [if_pos ⟨rfl, by omega⟩, q, pk_us]
          · rw [if_neg (by omega), pk_un q]
            exact d3 j hj
    · have nq : C < 0 ∨ 16 ≤ C := by
        by_cases y : C < 0
        · exact Or.inl y
        · exact Or.inr (Int32.not_lt.mp fun z => q1 ⟨Int32.not_lt.mp y, z⟩)
      rw [if_neg q1, if_neg eb_ne10]
      unfold eb_set
      rw [if_pos nq, d2, eb_bdR, a1, eb_leftM hk, eb_clR, eb_bdR, eb_bdR]
      refine ⟨_, rfl, eb_MR_trans mr ⟨fun r q1 _ _ _ => eb_stA _ _ _ q1, fun i _ q2 => eb_stI _ _ _ q2⟩, ?_, fun p' hp' => ?_, ?_, fun j hj => ?_⟩
      · rw [eb_stI _ _ _ (by decide)]; exact k18
      · rw [eb_stA _ _ _ (by decide)]; exact d1 p' hp'
      · exact eb_st _ _ _ _
      · rw [eb_stA _ _ _ (by decide)]; exact d3 j hj
  obtain ⟨ma, a1, a2, a3, a4⟩ := one (-1) 0 d m10 (by decide) (by decide) mr10 hB10.2.1 md10
  obtain ⟨mb, b1, b2, b3, b4⟩ := one 0 1 _ ma (by decide) (by decide) a2 a3 a4
  obtain ⟨mc, c1, c2, c3, c4⟩ := one 1 2 _ mb (by decide) (by decide) b2 b3 b4
  have f : f_X12_goesOn_s40 (nI c) (nI k) N TO CR (2, mc) = some (.inr mc) := by
    unfold f_X12_goesOn_s40
    rw [if_pos (show (1 : Int32) < 2 by decide)]
  rw [show (ea_fuel : Nat) = 99996 + 1 + 1 + 1 + 1 from rfl, eb_loop_inl a1, eb_loop_inl b1, eb_loop_inl c1, eb_loop_inr f, eb_obR]
  refine eb_some ⟨c2, c3, ?_⟩
  unfold eb_spr
  rw [if_pos h0]
  exact c4
end LAYS
