section SPREAD
variable {m mm : ea_M} {w : Nat → Int32}
/-- rows that reckoning writes: weighing's, next, the fates' -/
def eb_RF (a : Nat) (m m' : ea_M) : Prop := (∀ r, r ≠ 16 → r ≠ 22 → r ≠ 23 → r ≠ 73 → r ≠ 78 → r ≠ a → r ≠ a + 1 → r ≠ a + 2 → m' r = m r) ∧ (∀ i, i ≠ 2 → i ≠ 3 → m' 16 i = m 16 i) ∧ m' a 1 = m a 1
theorem eb_RF_trans {a : Nat} {m1 m2 m3 : ea_M} (h1 : eb_RF a m1 m2) (h2 : eb_RF a m2 m3) : eb_RF a m1 m3 := ⟨fun r q1 q2 q3 q4 q5 q6 q7 q8 => (h2.1 r q1 q2 q3 q4 q5 q6 q7 q8).trans (h1.1 r q1 q2 q3 q4 q5 q6 q7 q8), fun i q1 q2 => (h2.2.1 i q1 q2).trans (h1.2.1 i q1 q2), h2.2.2.trans h1.2.2⟩
theorem eb_A_RF {n a : Nat} (ha : eb_fp a) (h : eb_A m w n) (hf : eb_RF a m mm) : eb_A mm w n := by
  unfold eb_fp at ha
  obtain ⟨h1, h2, h3, h4, h5, h6, h7, h8⟩ := h
  have k : ∀ r, r < 22 → r ≠ 16 → mm r = m r := fun r q1 q2 => hf.1 r q2 (by omega) (by omega) (by omega) (by omega) (by omega) (by omega) (by omega)
  unfold eb_A
  rw [k 2 (by decide) (by decide), k 3 (by decide) (by decide), k 4 (by decide) (by decide), k 5 (by decide) (by decide)]
  exact ⟨h1, h2, h3, h4, h5, h6, h7, eb_LR_cg (l := eb_ct m 16) (l' := eb_ct mm 16) (hf.2.1 0 (by decide) (by decide)) (hf.2.1 1 (by decide) (by decide)) (fun i j _ _ _ => congrFun (k (16 + i) (by omega) (by omega)) j) (fun j _ _ => congrFun (k 21 (by decide) (by decide)) j) rfl (fun _ _ _ => rfl) h8⟩
/-- one place's gusts, of the class -/
theorem eb_spreadA {n b k p a fr tw : Nat} {d : eb_D} {here : Nat → Int32} (ha : eb_fp a) (hk : k < 8) (hn : n ≤ 6) (hb : b < n) (hp : 16 ≤ p) (hp2 : p < 208) (hA : eb_A m w n) (hf : w 9 = nI fr) (ht : w 10 = nI tw) (h1 : fr ≤ tw) (h2 : tw ≤ 15) (hh : m 77 p = here p) (h0 : 0 < here p) (hd : eb_RD m a w d) :
    eb_W (f_X10_spread (nI b) (nI p) (nI (k + 1)) a m) (fun z => eb_RF a m z.2 ∧ eb_RD z.2 a w (eb_spr w (nI b) k here p d)) := by
  have ha' := ha
  unfold eb_fp at ha'
  have e1 : nI p / 16 = nI (p / 16) := pk_div (d := 16) (by omega) (by decide) (by decide)
  have e2 : nI p - nI (p / 16) * 16 = nI (p % 16) := by
    rw [← e1]
    exact pk_rem (d := 16) (by omega) (by decide) (by decide)
  unfold f_X10_spread
  rw [e1, eb_bdR, e2, eb_bdR, nI_pred]
  refine eb_cl (eb_weigh0 (co := nI (p % 16)) (br := nI k) hA hn hb (show p / 16 < 13 by omega)) fun r m3 hz => ?_
  dsimp only at hz
  obtain ⟨hW, z4, z5⟩ := hz
  have k3 : ∀ r, r ≠ 16 → r ≠ 22 → r ≠ 23 → r ≠ 73 → m3 r = m r := hW.1
  have rf3 : eb_RF a m m3 := ⟨fun r q1 q2 q3 q4 _ _ _ _ => k3 r q1 q2 q3 q4, hW.2.1, by rw [k3 a (by omega) (by omega) (by omega) (by omega)]⟩
  have rd3 : eb_RD m3 a w d := by
    unfold eb_RD
    rw [k3 78 (by omega) (by omega) (by omega) (by omega), k3 a (by omega) (by omega) (by omega) (by omega), k3 (a + 1) (by omega) (by omega) (by omega) (by omega), k3 (a + 2) (by omega) (by omega) (by omega) (by omega)]
    exact hd
  rw [eb_gN (by omega) (by decide), eb_bdR, nI_clamp (by omega), k3 5 (by decide) (by decide) (by decide) (by decide), (hA.2.2.2.2.2.2.1 b hb).2]
  have ed : ∀ g, eb_dr w (nI b) g = if 0 < w (27 + 4 * b) then g else 0 := fun g => by
    unfold eb_dr
    rw [nI_clamp (by omega)]
  obtain ⟨SK, eSK⟩ : ∃ SK, SK = eb_sk w (nI b) (nI (p / 16)) (nI (p % 16)) (nI k) := ⟨_, rfl⟩
  obtain ⟨CR, eCR⟩ : ∃ CR, CR = eb_cr w (nI b) (nI (p / 16)) (nI (p % 16)) (nI k) := ⟨_, rfl⟩
  rw [← eSK] at z4
  rw [← eCR] at z5
  have hto : 0 < nI (p / 16) - SK → ∃ t, t ≤ 12 ∧ nI (p / 16) - SK = nI t := fun q => by
    obtain ⟨j, hj, ej⟩ := eb_skR w (nI b) (nI (p / 16)) (nI (p % 16)) (nI k)
    rw [eSK, ej] at q ⊢
    have := (eb_subN (show p / 16 ≤ 12 by omega) hj).mp q
    exact ⟨p / 16 - j, by omega, by rw [pk_sub (by omega)]⟩
  have gu : ∀ g d', eb_gu w (nI b) k p (here p) g d' = eb_set k (nI (p / 16) - SK) (nI (p % 16) + CR + eb_dr w (nI b) g) (here p) d' := fun g d' => by
    unfold eb_gu
    rw [← eSK, ← eCR]
  -- one gust
  have one : ∀ (x8 g g1 : Int32) (d' : eb_D) (m9 : ea_M), ¬ 1 < g → g + 1 = g1 → eb_dr w (nI b) g = (if x8 = 0 then 0 else g) → eb_RF a m m9 → m9 73 4 = SK → m9 73 5 = CR → eb_RD m9 a w d' → ∃ m18, f_X10_spread_s52 (nI p) (nI (k + 1)) a (nI (p / 16)) (nI (p % 16)) x8 (g, m9) = some (.inl (g1, m18)) ∧ eb_RF a m m18 ∧ m18 73 4 = SK ∧ m18 73 5 = CR ∧ eb_RD m18 a w (eb_gu w (nI b) k p (here p) g d') := by
    intro x8 g g1 d' m9 hg hg1 hx rf k4 k5 rd
    have h77 : m9 77 p = here p := by rw [rf.1 77 (by omega) (by omega) (by omega) (by omega) (by omega) (by omega) (by omega) (by omega)]; exact hh
    have hA9 := eb_A_RF ha hA rf
    unfold f_X10_spread_s52 f_X10_spread_j79
    dsimp only
    have st : ∀ x : Int32, x = eb_dr w (nI b) g → ∃ m18, (ea_bd (nI (p % 16) + CR + x) fun x15 => ea_bd (m9 73 4) fun x16 => ea_g (nI p) 208 (ea_bd (m9 77 (Int32.toNatClampNeg (nI p))) fun x17 => ea_cl (f_X10_settle (nI (p / 16) - x16) x15 (nI (k + 1)) x17 a m9) fun _ m18 => (some (.inl (g + 1, m18)) : Option ((Int32 × ea_M) ⊕ ea_M)))) = some (.inl (g1, m18)) ∧ eb_RF a m m18 ∧ m18 73 4 = SK ∧ m18 73 5 = CR ∧ eb_RD m18 a w (eb_gu w (nI b) k p (here p) g d') := fun x hx => by
      rw [eb_bdR, k4, eb_bdR, eb_gN hp2 (by decide), eb_bdR, nI_clamp (by omega), h77, hx]
      obtain ⟨y, ey, hy1, hy2, hy3⟩ := eb_settleA (N := here p) (c := nI (p % 16) + CR + eb_dr w (nI b) g) ha hk rd (hA9.2.2.1) (hA9.2.2.2.1) hf ht h1 h2 hto
      rw [ey]
      refine ⟨y.2, ?_, eb_RF_trans rf ⟨fun r _ _ _ _ q5 q6 q7 q8 => hy2 r q5 q6 q7 q8, fun i _ _ => by rw [hy2 16 (by omega) (by omega) (by omega) (by omega)], hy3⟩, ?_, ?_, ?_⟩
      · show some (Sum.inl (g + 1, y.2)) = _
        rw [hg1]
      · rw [hy2 73 (by omega) (by omega) (by omega) (by omega)]; exact k4
      · rw [hy2 73 (by omega) (by omega) (by omega) (by omega)]; exact k5
      · rw [gu]
        exact hy1
    rw [if_neg hg, k5, eb_bdR]
    by_cases q : x8 = 0
    · rw [if_pos q] at hx ⊢
      exact st 0 hx.symm
    · rw [if_neg q] at hx ⊢
      exact st g hx.symm
  have all : ∀ x8 : Int32, (∀ g, eb_dr w (nI b) g = (if x8 = 0 then 0 else g)) → eb_W (f_X10_spread_j47 (nI p) (nI (k + 1)) a (nI (p / 16)) (nI (p % 16)) x8 m3) (fun z => eb_RF a m z.2 ∧ eb_RD z.2 a w (eb_spr w (nI b) k here p d)) := fun x8 hx => by
    obtain ⟨ma, a1, a2, a3, a4, a5⟩ := one x8 (-1) 0 d m3 (by decide) (by decide) (hx _) rf3 z4 z5 rd3
    obtain ⟨mb, b1, b2, b3, b4, b5⟩ := one x8 0 1 _ ma (by decide) (by decide) (hx _) a2 a3 a4 a5
    obtain ⟨mc, c1, c2, c3, c4, c5⟩ := one x8 1 2 _ mb (by decide) (by decide) (hx _) b2 b3 b4 b5
    have f : f_X10_spread_s52 (nI p) (nI (k + 1)) a (nI (p / 16)) (nI (p % 16)) x8 (2, mc) = some (.inr mc) := by
      unfold f_X10_spread_s52
      rw [if_pos (show (1 : Int32) < 2 by decide)]
    unfold f_X10_spread_j47
    rw [show (ea_fuel : Nat) = 99996 + 1 + 1 + 1 + 1 from rfl, eb_loop_inl a1, eb_loop_inl b1, eb_loop_inl c1, eb_loop_inr f, eb_obR]
    refine eb_some ⟨c2, ?_⟩
    unfold eb_spr
    rw [if_pos h0]
    exact c5
  refine eb_ite (fun q => all 0 fun g => ?_) fun q => all 1 fun g => ?_
  · rw [ed, if_neg (Int32.not_lt.mpr q), if_pos rfl]
  · rw [ed, if_pos (Int32.not_le.mp q), if_neg eb_ne10]
end SPREAD
