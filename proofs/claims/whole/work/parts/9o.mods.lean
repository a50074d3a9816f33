section MODS
variable {c : Nat → Nat} {L p q j n : Nat} {m : ea_M} {τ : Type} {Q : τ → Prop} {F : Int32 → ea_M → Option τ} {lo hi : Int32}
/-- all but the reference's point and begin is as it was -/
def et_F (m m' : ea_M) : Prop := ∀ b i, ¬ (b = 272 ∧ (i = 10 ∨ i = 12)) → m' b i = m b i
theorem et_F_refl (m : ea_M) : et_F m m := fun _ _ _ => rfl
theorem et_F_trans {m1 m2 m3 : ea_M} (h1 : et_F m1 m2) (h2 : et_F m2 m3) : et_F m1 m3 := fun b i h => (h2 b i h).trans (h1 b i h)
theorem et_F_st {m1 m2 : ea_M} (h : et_F m1 m2) {i : Nat} (hi : i = 10 ∨ i = 12) (v : Int32) : et_F m1 (ea_st m2 272 i v) := fun b k hb => by
  rw [eb_sts, if_neg (by omega)]
  exact h b k hb
theorem et_F_T2 {m' : ea_M} (h : et_F m m') (hT : et_T2 c m) : et_T2 c m' := fun j hj => by
  rw [h 278 j (by omega)]
  exact hT j hj
/-- the reference stands behind p, ahead of the thing there -/
def et_M (c : Nat → Nat) (L : Nat) (m : ea_M) (p : Nat) : Prop := p ≤ L ∧ (∃ q, p ≤ q ∧ q ≤ et_sb c L p ∧ m 272 10 = nI q) ∧ m 272 11 = nI L ∧ et_T2 c m
/-- the reference has passed the letters of the thing behind p -/
def et_ML (c : Nat → Nat) (L : Nat) (m : ea_M) (p : Nat) : Prop := p ≤ L ∧ m 272 12 = nI (et_sb c L p) ∧ m 272 10 = nI (if et_kd c L (et_sb c L p) = 1 then et_te c L p else et_sb c L p) ∧ m 272 11 = nI L ∧ et_T2 c m
theorem et_M_at (hL : L ≤ 400) (hp : p ≤ L) (h1 : m 272 10 = nI p) (h2 : m 272 11 = nI L) (hT : et_T2 c m) : et_M c L m p := ⟨hp, ⟨p, Nat.le_refl _, (et_sb_spec hL hp).1, h1⟩, h2, hT⟩
theorem et_M_sb (hL : L ≤ 400) (hp : p ≤ L) (h1 : m 272 10 = nI (et_sb c L p)) (h2 : m 272 11 = nI L) (hT : et_T2 c m) : et_M c L m p := ⟨hp, ⟨et_sb c L p, (et_sb_spec hL hp).1, Nat.le_refl _, h1⟩, h2, hT⟩
/-- rows that do not matter there -/
theorem et_M_cg {m' : ea_M} (h : et_M c L m p) (h1 : m' 272 10 = m 272 10) (h2 : m' 272 11 = m 272 11) (h3 : m' 278 = m 278) : et_M c L m' p := by
  unfold et_M et_T2 at h ⊢
  rw [h1, h2, h3]
  exact h
theorem et_isAt {x y : Nat} (hL : L ≤ 400) (hy : y < 128) (hx : x < 128) (hT : et_T2 c m) (h1 : m 272 10 = nI q) (h2 : m 272 11 = nI L) (hq : q ≤ L) : f_X12_isAt (nI x) (nI y) m = some (if q < L ∧ x ≤ c q ∧ c q ≤ y then 1 else 0, m) := by
  unfold f_X12_isAt
  rw [eb_bdR, h1, eb_bdR, h2]
  by_cases h : q < L
  · obtain ⟨hc, t1, t2⟩ := hT q (by omega)
    rw [if_neg (nI_ge h (by omega)), eb_bdR, eb_gN (by omega) (by decide), eb_bdR, nI_clamp (by omega)]
    by_cases h8 : c q < 128
    · rw [t1 h8]
      by_cases ha : c q < x
      · rw [if_pos (nI_lt ha (by omega)), if_neg (by omega)]
      · rw [if_neg (nI_nlt (by omega) (by omega)), eb_bdR, eb_gN (by omega) (by decide), eb_bdR, nI_clamp (by omega), t1 h8]
        by_cases hb : y < c q
        · rw [if_pos (nI_lt hb (by omega)), if_neg (by omega)]
        · rw [if_neg (nI_nlt (by omega) (by omega)), if_pos (by omega)]
    · have hn := t2 (by omega)
      rw [if_pos, if_neg (by omega)]
      rw [eb_lt_iff, eb_t0] at hn
      rw [eb_lt_iff, nI_toInt (by omega)]
      omega
  · rw [if_pos (nI_le (by omega) (by omega)), if_neg (by omega)]
/-- the blanks passed -/
theorem et_mBl (hL : L ≤ 400) (h : et_M c L m p) : eb_W (f_X12_blanks m) (fun z => et_F m z.2 ∧ z.2 272 12 = nI (et_sb c L p) ∧ z.2 272 10 = nI (et_sb c L p)) := by
  obtain ⟨hp, ⟨q0, g1, g2, g3⟩, h11, hT⟩ := h
  obtain ⟨s1, s2, s3, s4⟩ := et_sb_spec (c := c) hL hp
  unfold f_X12_blanks
  refine eb_bind (P := fun z => et_F m z ∧ z 272 10 = nI (et_sb c L p)) (eb_while (fun n s => ∃ q, n = L - q ∧ p ≤ q ∧ q ≤ et_sb c L p ∧ et_F m s ∧ s 272 10 = nI q) ?_ ea_fuel (L - q0) _ (by unfold ea_fuel; omega) ⟨q0, rfl, g1, g2, et_F_refl m, g3⟩) fun z hz => ?_
  · rintro n s ⟨q, rfl, q1, q2, q3, q4⟩
    unfold f_X12_blanks_s0
    rw [show f_X12_isAt 32 32 s = some (if q < L ∧ 32 ≤ c q ∧ c q ≤ 32 then 1 else 0, s) from et_isAt hL (by decide) (by decide) (et_F_T2 q3 hT) q4 (by rw [q3 272 11 (by omega)]; exact h11) (by omega), eb_clR]
    by_cases hq : q = et_sb c L p
    · rw [if_neg (show ¬ (q < L ∧ 32 ≤ c q ∧ c q ≤ 32) from fun z => s4 (by rw [← hq]; exact ⟨z.1, by omega⟩)), if_pos rfl]
      exact eb_some ⟨q3, by rw [q4, hq]⟩
    · obtain ⟨k1, k2⟩ := s3 q q1 (by omega)
      rw [if_pos (show q < L ∧ 32 ≤ c q ∧ c q ≤ 32 from ⟨k1, by omega, by omega⟩), if_neg (by decide), eb_bdR, q4, eb_bdR]
      exact eb_some ⟨L - (q + 1), by omega, q + 1, rfl, by omega, by omega, et_F_st q3 (Or.inl rfl) _, by rw [eb_st, nI_1]⟩
  · refine eb_bdV hz.2 (eb_bd (eb_some ⟨et_F_st hz.1 (Or.inr rfl) _, eb_st z 272 12 (nI (et_sb c L p)), ?_⟩))
    dsimp only
    rw [eb_stI _ _ _ (by decide)]
    exact hz.2
theorem et_mLet (hL : L ≤ 400) (h : et_M c L m p) (hF : ∀ r m1, et_F m m1 → et_ML c L m1 p → eb_W (F r m1) Q) : eb_W (ea_cl (f_X12_letters m) F) Q := by
  have hp := h.1
  have h11 := h.2.2.1
  have hT := h.2.2.2
  obtain ⟨s1, s2, s3, s4⟩ := et_sb_spec (c := c) hL hp
  have key : eb_W (f_X12_letters m) (fun z => et_F m z.2 ∧ et_ML c L z.2 p) := by
    unfold f_X12_letters
    refine eb_cl (et_mBl hL h) fun r1 m1 hm1 => ?_
    obtain ⟨f1, b1, b2⟩ := hm1
    dsimp only at f1 b1 b2
    obtain ⟨e, ee⟩ : ∃ e, e = (if et_kd c L (et_sb c L p) = 1 then et_te c L p else et_sb c L p) := ⟨_, rfl⟩
    have he : et_sb c L p ≤ e ∧ e ≤ L ∧ (∀ q, et_sb c L p ≤ q → q < e → et_kd c L q = 1) ∧ et_kd c L e ≠ 1 := by
      by_cases hk : et_kd c L (et_sb c L p) = 1
      · obtain ⟨w1, w2, w3, w4⟩ := et_en_w (c := c) (b := et_sb c L p) hL (Or.inl hk)
        rw [if_pos hk] at ee
        rw [ee]
        rw [hk] at w3 w4
        exact ⟨Nat.le_of_lt w1, w2, w3, w4⟩
      · rw [if_neg hk] at ee
        rw [ee]
        exact ⟨Nat.le_refl _, s2, fun q a b => by omega, hk⟩
    refine eb_bind (P := fun z => et_F m z ∧ z 272 12 = nI (et_sb c L p) ∧ z 272 10 = nI e) (eb_while (fun n s => ∃ q, n = L - q ∧ et_sb c L p ≤ q ∧ q ≤ e ∧ et_F m s ∧ s 272 12 = nI (et_sb c L p) ∧ s 272 10 = nI q) ?_ ea_fuel (L - et_sb c L p) _ (by unfold ea_fuel; omega) ⟨_, rfl, Nat.le_refl _, he.1, f1, b1, b2⟩) fun z hz => ?_
    · rintro n s ⟨q, rfl, q1, q2, q3, q5, q4⟩
      unfold f_X12_letters_s4
      rw [show f_X12_isAt 97 122 s = some (if q < L ∧ 97 ≤ c q ∧ c q ≤ 122 then 1 else 0, s) from et_isAt hL (by decide) (by decide) (et_F_T2 q3 hT) q4 (by rw [q3 272 11 (by omega)]; exact h11) (by omega), eb_clR]
      by_cases hq : q = e
      · rw [if_neg (show ¬ (q < L ∧ 97 ≤ c q ∧ c q ≤ 122) from fun z => he.2.2.2 (by rw [← hq]; exact et_kd1.mpr z)), if_pos rfl]
        exact eb_some ⟨q3, q5, by rw [q4, hq]⟩
      · rw [if_pos (et_kd1.mp (he.2.2.1 q q1 (by omega))), if_neg (by decide), eb_bdR, q4, eb_bdR]
        exact eb_some ⟨L - (q + 1), by omega, q + 1, rfl, by omega, by omega, et_F_st q3 (Or.inl rfl) _, by rw [eb_stI _ _ _ (by decide)]; exact q5, by rw [eb_st, nI_1]⟩
    · refine eb_some ⟨hz.1, hp, hz.2.1, ?_, ?_, et_F_T2 hz.1 hT⟩
      · rw [← ee]; exact hz.2.2
      · show z 272 11 = _
        rw [hz.1 272 11 (by omega)]; exact h11
  exact eb_bind key fun z hz => hF z.1 z.2 hz.1 hz.2
theorem et_isWord (hL : L ≤ 400) (hj : j < ea_str.length) (hj0 : 0 < ea_tl j) (h : et_ML c L m p) : f_X12_isWord j m = some (eb_b2 (et_w c L p j), m) := by
  obtain ⟨hp, h12, h10, h11, hT⟩ := h
  obtain ⟨s1, s2, _, _⟩ := et_sb_spec (c := c) hL hp
  obtain ⟨e1, e2, _⟩ := et_en_le (c := c) (b := et_sb c L p) hL s2
  have e1 : et_sb c L p ≤ et_te c L p := e1
  have e2 : et_te c L p ≤ L := e2
  have hl := ea_tl_lt hj
  have hno : et_w c L p j = false → f_X12_isWord_j21 j 0 m = some (eb_b2 (et_w c L p j), m) := fun hw => by
    unfold f_X12_isWord_j21
    rw [show ea_loop (f_X12_isWord_s24 j) ea_fuel (0, 0, m) = some (0, m) from eb_loop_inr (by unfold f_X12_isWord_s24; rw [if_pos rfl]) 99999, eb_obR, hw]
    rfl
  unfold f_X12_isWord
  rw [eb_bdR, h10, eb_bdR, h12, show ea_slen j m = some (nI (ea_tl j), m) from rfl, eb_clR]
  by_cases hk1 : et_kd c L (et_sb c L p) = 1
  · rw [if_pos hk1, pk_sub e1]
    by_cases hlen : et_te c L p = et_sb c L p + ea_tl j
    · rw [if_pos (by rw [hlen, Nat.add_sub_cancel_left])]
      obtain ⟨w1, w2, w3, w4⟩ := et_en_w (c := c) (b := et_sb c L p) hL (Or.inl hk1)
      have hd : ∀ i, i < ea_tl j → c (et_sb c L p + i) < 128 := fun i hi => by
        have := w3 (et_sb c L p + i) (by omega) (show _ < et_te c L p by omega)
        rw [hk1] at this
        have := (et_kd1.mp this).2
        omega
      unfold f_X12_isWord_j21
      have key : eb_W (ea_loop (f_X12_isWord_s24 j) ea_fuel (1, 0, m)) (fun r => r = (eb_b2 (et_w c L p j), m)) := by
        refine eb_while (fun k s => ∃ i, i ≤ ea_tl j ∧ ((s = (1, nI i, m) ∧ k = ea_tl j + 1 - i ∧ ∀ t, t < i → nI (c (et_sb c L p + t)) = ea_tc j t) ∨ (s = (0, nI i, m) ∧ k = 0 ∧ et_w c L p j = false))) ?_ ea_fuel (ea_tl j + 1) _ (by unfold ea_fuel; omega) ⟨0, Nat.zero_le _, Or.inl ⟨rfl, rfl, fun t ht => by omega⟩⟩
        rintro k s ⟨i, hi, ⟨rfl, rfl, hI⟩ | ⟨rfl, rfl, hI⟩⟩
        · unfold f_X12_isWord_s24
          dsimp only
          rw [if_neg (by decide), show ea_slen j m = some (nI (ea_tl j), m) from rfl, eb_clR]
          by_cases hii : i = ea_tl j
          · subst hii
            rw [if_pos (nI_le (Nat.le_refl _) (by omega))]
            refine eb_some ?_
            show ((1 : Int32), m) = _
            rw [show et_w c L p j = true from decide_eq_true ⟨hk1, hlen, hI⟩]
            rfl
          · rw [if_neg (nI_ge (by omega) (by omega)), eb_bdR, h12, nI_add, eb_gN (by omega) (by decide), eb_bdR, nI_clamp (by omega), (hT _ (by omega)).2.1 (hd i (by omega)), show ea_schr j (nI i) m = ea_g (nI i) (ea_tl j) (some (ea_tc j (nI i).toNatClampNeg, m)) from rfl, eb_gN (by omega) (by omega), eb_clR, nI_clamp (by omega)]
            by_cases hc : nI (c (et_sb c L p + i)) = ea_tc j i
            · rw [if_pos hc]
              unfold f_X12_isWord_j60
              refine eb_some ⟨ea_tl j + 1 - (i + 1), by omega, i + 1, by omega, Or.inl ⟨by rw [nI_1], rfl, fun t ht => ?_⟩⟩
              by_cases hti : t = i
              · rw [hti]; exact hc
              · exact hI t (by omega)
            · rw [if_neg hc]
              unfold f_X12_isWord_j60
              exact eb_some ⟨0, by omega, i + 1, by omega, Or.inr ⟨by rw [nI_1], rfl, decide_eq_false fun z => hc (z.2.2 i (by omega))⟩⟩
        · unfold f_X12_isWord_s24
          dsimp only
          rw [if_pos rfl]
          refine eb_some ?_
          show ((0 : Int32), m) = _
          rw [hI]
          rfl
      obtain ⟨r, er, hr⟩ := key
      rw [er, hr, eb_obR]
      cases et_w c L p j <;> rfl
    · rw [if_neg (by rw [nI_eq (by omega) (by omega)]; omega)]
      exact hno (decide_eq_false fun z => hlen z.2.1)
  · rw [if_neg hk1, pk_sub (Nat.le_refl _), Nat.sub_self, if_neg (by rw [nI_eq (by decide) (by omega)]; omega)]
    exact hno (decide_eq_false fun z => hk1 z.1)
/-- the word passed: the reference stands behind it -/
theorem et_ML_w (hL : L ≤ 400) (h : et_ML c L m p) (hw : et_w c L p j = true) : et_M c L m (et_te c L p) := by
  obtain ⟨hp, h12, h10, h11, hT⟩ := h
  have hk := (of_decide_eq_true hw).1
  rw [if_pos hk] at h10
  exact et_M_at hL (et_te_le hL hp).2.1 h10 h11 hT
theorem et_w_lt (hL : L ≤ 400) (hp : p ≤ L) (hw : et_w c L p j = true) : p < et_te c L p := (et_te_le hL hp).2.2 (by have := (of_decide_eq_true hw).1; omega)
theorem et_mPass (hL : L ≤ 400) (hj : j < ea_str.length) (hj0 : 0 < ea_tl j) (h : et_M c L m p)
    (h0 : et_w c L p j = false → ∀ m1, et_F m m1 → et_M c L m1 p → m1 272 12 = nI (et_sb c L p) → eb_W (F 0 m1) Q)
    (h1 : et_w c L p j = true → ∀ m1, et_F m m1 → et_M c L m1 (et_te c L p) → eb_W (F 1 m1) Q) : eb_W (ea_cl (f_X12_passes j m) F) Q := by
  have key : eb_W (f_X12_passes j m) (fun z => eb_W (F z.1 z.2) Q) := by
    unfold f_X12_passes
    refine et_mLet hL h fun r m1 k1 k2 => ?_
    rw [et_isWord hL hj hj0 k2, eb_clR]
    cases hw : et_w c L p j with
    | false =>
      rw [show eb_b2 false = 0 from rfl, if_pos rfl]
      refine eb_bdV k2.2.1 (eb_bd (eb_some (h0 hw _ (et_F_st k1 (Or.inl rfl) _) (et_M_sb hL k2.1 (eb_st m1 272 10 (nI (et_sb c L p))) ?_ (et_F_T2 (et_F_st (et_F_refl m1) (Or.inl rfl) _) k2.2.2.2.2)) ?_)))
      · dsimp only
        rw [eb_stI _ _ _ (by decide)]; exact k2.2.2.2.1
      · dsimp only
        rw [eb_stI _ _ _ (by decide)]; exact k2.2.1
    | true =>
      rw [show eb_b2 true = 1 from rfl, if_neg (by decide)]
      exact eb_some (h1 hw m1 k1 (et_ML_w hL k2 hw))
  exact eb_bind key fun z hz => hz
theorem et_te3 (hk : et_kd c L (et_sb c L p) = 3) : et_te c L p = et_sb c L p + 1 := by
  unfold et_te et_en
  rw [if_pos hk]
theorem et_mSign {x : Nat} (hL : L ≤ 400) (hx : x < 128 ∧ ¬ (97 ≤ x ∧ x ≤ 122) ∧ ¬ (48 ≤ x ∧ x ≤ 57)) (h : et_M c L m p)
    (h0 : et_sg c L p x = false → ∀ m1, et_F m m1 → et_M c L m1 p → m1 272 12 = nI (et_sb c L p) → eb_W (F 0 m1) Q)
    (h1 : et_sg c L p x = true → ∀ m1, et_F m m1 → et_M c L m1 (et_te c L p) → m1 272 12 = nI (et_sb c L p) → eb_W (F 1 m1) Q) : eb_W (ea_cl (f_X12_sign (nI x) m) F) Q := by
  have key : eb_W (f_X12_sign (nI x) m) (fun z => eb_W (F z.1 z.2) Q) := by
    unfold f_X12_sign
    refine eb_cl (et_mBl hL h) fun r1 m1 hm1 => ?_
    obtain ⟨f1, b1, b2⟩ := hm1
    dsimp only at f1 b1 b2
    obtain ⟨s1, s2, _, _⟩ := et_sb_spec (c := c) hL h.1
    have e11 : m1 272 11 = nI L := by rw [f1 272 11 (by omega)]; exact h.2.2.1
    have eT := et_F_T2 f1 h.2.2.2
    rw [et_isAt hL hx.1 hx.1 eT b2 e11 s2, eb_clR]
    cases hw : et_sg c L p x with
    | false =>
      have hn := of_decide_eq_false hw
      rw [if_neg (show ¬ (et_sb c L p < L ∧ x ≤ c (et_sb c L p) ∧ c (et_sb c L p) ≤ x) from fun z => hn ⟨z.1, by omega⟩), if_pos rfl]
      exact eb_some (h0 hw m1 f1 (et_M_sb hL h.1 b2 e11 eT) b1)
    | true =>
      have hn := of_decide_eq_true hw
      rw [if_pos (show et_sb c L p < L ∧ x ≤ c (et_sb c L p) ∧ c (et_sb c L p) ≤ x from ⟨hn.1, by omega, by omega⟩), if_neg (by decide)]
      have e3 := et_te3 (et_sg_kd hx.2 hw)
      refine eb_bdV b2 (eb_bd (eb_some (h1 hw _ (et_F_st f1 (Or.inl rfl) _) (et_M_at hL (et_te_le hL h.1).2.1 ?_ ?_ (et_F_T2 (et_F_st (et_F_refl m1) (Or.inl rfl) _) eT)) ?_)))
      · dsimp only
        rw [eb_st, nI_1, e3]
      · dsimp only
        rw [eb_stI _ _ _ (by decide)]; exact e11
      · dsimp only
        rw [eb_stI _ _ _ (by decide)]; exact b1
  exact eb_bind key fun z hz => hz
theorem et_sg_lt {x : Nat} (hL : L ≤ 400) (hx : ¬ (97 ≤ x ∧ x ≤ 122) ∧ ¬ (48 ≤ x ∧ x ≤ 57)) (hp : p ≤ L) (hw : et_sg c L p x = true) : p < et_te c L p := (et_te_le hL hp).2.2 (by have := et_sg_kd hx hw; omega)
theorem et_mNum (hL : L ≤ 400) (h : et_M c L m p)
    (h0 : et_num c L p lo hi = none → ∀ m1, et_F m m1 → m1 272 12 = nI (et_sb c L p) → eb_W (F (-1) m1) Q)
    (h1 : ∀ v, et_num c L p lo hi = some v → ∀ m1, et_F m m1 → et_M c L m1 (et_te c L p) → m1 272 12 = nI (et_sb c L p) → eb_W (F (nI v) m1) Q) : eb_W (ea_cl (f_X12_number lo hi m) F) Q := by
  have hp := h.1
  have h11 := h.2.2.1
  have hT := h.2.2.2
  obtain ⟨s1, s2, s3, s4⟩ := et_sb_spec (c := c) hL hp
  have key : eb_W (f_X12_number lo hi m) (fun z => eb_W (F z.1 z.2) Q) := by
    unfold f_X12_number
    refine eb_cl (et_mBl hL h) fun r1 m1 hm1 => ?_
    obtain ⟨f1, b1, b2⟩ := hm1
    dsimp only at f1 b1 b2
    obtain ⟨e, ee⟩ : ∃ e, e = (if et_kd c L (et_sb c L p) = 2 then et_te c L p else et_sb c L p) := ⟨_, rfl⟩
    have he : et_sb c L p ≤ e ∧ e ≤ L ∧ (∀ q, et_sb c L p ≤ q → q < e → et_kd c L q = 2) ∧ et_kd c L e ≠ 2 := by
      by_cases hk : et_kd c L (et_sb c L p) = 2
      · obtain ⟨w1, w2, w3, w4⟩ := et_en_w (c := c) (b := et_sb c L p) hL (Or.inr hk)
        rw [if_pos hk] at ee
        rw [ee]
        rw [hk] at w3 w4
        exact ⟨Nat.le_of_lt w1, w2, w3, w4⟩
      · rw [if_neg hk] at ee
        rw [ee]
        exact ⟨Nat.le_refl _, s2, fun q a b => by omega, hk⟩
    refine eb_bind (P := fun z => z.1 = nI (et_vn c (et_sb c L p) (min (e - et_sb c L p) 3)) ∧ et_F m z.2 ∧ z.2 272 12 = nI (et_sb c L p) ∧ z.2 272 10 = nI e) (eb_while (fun n s => ∃ q, n = L - q ∧ et_sb c L p ≤ q ∧ q ≤ e ∧ s.1 = nI (et_vn c (et_sb c L p) (min (q - et_sb c L p) 3)) ∧ et_F m s.2 ∧ s.2 272 12 = nI (et_sb c L p) ∧ s.2 272 10 = nI q) ?_ ea_fuel (L - et_sb c L p) _ (by unfold ea_fuel; omega) ⟨_, rfl, Nat.le_refl _, he.1, by rw [Nat.sub_self]; rfl, f1, b1, b2⟩) fun z hz => ?_
    · rintro n ⟨x, s⟩ ⟨q, rfl, q1, q2, q0, q3, q5, q4⟩
      dsimp only at q0 q3 q5 q4
      subst q0
      unfold f_X12_number_s6
      dsimp only
      rw [show f_X12_isAt 48 57 s = some (if q < L ∧ 48 ≤ c q ∧ c q ≤ 57 then 1 else 0, s) from et_isAt hL (by decide) (by decide) (et_F_T2 q3 hT) q4 (by rw [q3 272 11 (by omega)]; exact h11) (by omega), eb_clR]
      by_cases hq : q = e
      · rw [if_neg (show ¬ (q < L ∧ 48 ≤ c q ∧ c q ≤ 57) from fun z => he.2.2.2 (by rw [← hq]; exact et_kd2.mpr z)), if_pos rfl]
        exact eb_some ⟨by rw [hq], q3, q5, by rw [← hq]; exact q4⟩
      · have hd := et_kd2.mp (he.2.2.1 q q1 (by omega))
        rw [if_pos hd, if_neg (by decide), eb_bdR, q4, eb_bdR, q5, pk_sub q1]
        have hj : ∀ x, f_X12_number_j51 lo hi x s = some (.inl (x, ea_st s 272 10 (nI (q + 1)))) := fun x => by
          unfold f_X12_number_j51
          rw [eb_bdR, q4, eb_bdR, nI_1]
        have hk : ∀ x, x = nI (et_vn c (et_sb c L p) (min (q + 1 - et_sb c L p) 3)) → ∃ n', n' < L - q ∧ ∃ q', n' = L - q' ∧ et_sb c L p ≤ q' ∧ q' ≤ e ∧ ((x, ea_st s 272 10 (nI (q + 1))) : Int32 × ea_M).1 = nI (et_vn c (et_sb c L p) (min (q' - et_sb c L p) 3)) ∧ et_F m ((x, ea_st s 272 10 (nI (q + 1))) : Int32 × ea_M).2 ∧ ((x, ea_st s 272 10 (nI (q + 1))) : Int32 × ea_M).2 272 12 = nI (et_sb c L p) ∧ ((x, ea_st s 272 10 (nI (q + 1))) : Int32 × ea_M).2 272 10 = nI q' := fun x hx =>
          ⟨L - (q + 1), by omega, q + 1, rfl, by omega, by omega, hx, et_F_st q3 (Or.inl rfl) _, by dsimp only; rw [eb_stI _ _ _ (by decide)]; exact q5, by dsimp only; rw [eb_st]⟩
        by_cases h3 : 3 ≤ q - et_sb c L p
        · rw [if_pos (show 3 ≤ nI (q - et_sb c L p) from (show nI 3 ≤ nI (q - et_sb c L p) from nI_le h3 (by omega)))]
          rw [hj]
          exact eb_some (hk _ (by rw [Nat.min_eq_right h3, Nat.min_eq_right (by omega)]))
        · rw [if_neg (show ¬ 3 ≤ nI (q - et_sb c L p) from (show ¬ nI 3 ≤ nI (q - et_sb c L p) from nI_ge (by omega) (by decide))), eb_bdR, eb_gN (by omega) (by decide), eb_bdR, eb_bdR, nI_clamp (by omega), (et_F_T2 q3 hT q (by omega)).2.1 (by omega)]
          rw [hj]
          refine eb_some (hk _ ?_)
          rw [Nat.min_eq_left (by omega), Nat.min_eq_left (by omega), show q + 1 - et_sb c L p = (q - et_sb c L p) + 1 by omega, show (10 : Int32) * nI (et_vn c (et_sb c L p) (q - et_sb c L p)) = nI (10 * et_vn c (et_sb c L p) (q - et_sb c L p)) from pk_mul 10 _, nI_add, show nI (10 * et_vn c (et_sb c L p) (q - et_sb c L p) + c q) - 48 = nI (10 * et_vn c (et_sb c L p) (q - et_sb c L p) + c q - 48) from pk_sub (b := 48) (by omega)]
          show _ = nI (10 * et_vn c (et_sb c L p) (q - et_sb c L p) + c (et_sb c L p + (q - et_sb c L p)) - 48)
          rw [show et_sb c L p + (q - et_sb c L p) = q by omega]
    · obtain ⟨x, mz⟩ := z
      obtain ⟨z0, z1, z2, z3⟩ := hz
      dsimp only at z0 z1 z2 z3
      subst z0
      dsimp only
      have hno : et_num c L p lo hi = none → eb_W (f_X12_number_j99 mz) (fun z => eb_W (F z.1 z.2) Q) := fun hn => eb_some (h0 hn mz z1 z2)
      rw [eb_bdR, z3, eb_bdR, z2]
      by_cases hk : et_kd c L (et_sb c L p) = 2
      · rw [if_pos hk] at ee
        have w1 : et_sb c L p < et_te c L p := (et_en_w (c := c) (b := et_sb c L p) hL (Or.inr hk)).1
        rw [← ee] at w1
        rw [if_neg (by rw [nI_eq (by omega) (by omega)]; omega), eb_bdR, eb_bdR, pk_sub (by omega)]
        by_cases h3 : e ≤ et_sb c L p + 3
        · rw [if_neg (show ¬ 3 < nI (e - et_sb c L p) from (show ¬ nI 3 < nI (e - et_sb c L p) from nI_nlt (by omega) (by decide))), Nat.min_eq_left (by omega)]
          by_cases hlo : nI (et_vn c (et_sb c L p) (e - et_sb c L p)) < lo
          · rw [if_pos hlo]
            exact hno (if_neg fun z => z.2.2.1 (by rw [← ee]; exact hlo))
          · rw [if_neg hlo]
            by_cases hhi : nI (et_vn c (et_sb c L p) (e - et_sb c L p)) ≤ hi
            · rw [if_pos hhi]
              refine eb_some (h1 _ ?_ mz z1 ?_ z2)
              · unfold et_num
                rw [← ee, if_pos ⟨hk, h3, hlo, hhi⟩]
              · rw [← ee]
                exact et_M_at hL he.2.1 z3 (by rw [z1 272 11 (by omega)]; exact h11) (et_F_T2 z1 hT)
            · rw [if_neg hhi]
              exact hno (if_neg fun z => hhi (by rw [ee]; exact z.2.2.2))
        · rw [if_pos (show 3 < nI (e - et_sb c L p) from (show nI 3 < nI (e - et_sb c L p) from nI_lt (by omega) (by omega)))]
          exact hno (if_neg fun z => h3 (by rw [ee]; exact z.2.1))
      · rw [if_neg hk] at ee
        rw [if_pos (by rw [ee])]
        exact hno (if_neg fun z => hk z.1)
  exact eb_bind key fun z hz => hz
theorem et_mAfter (hL : L ≤ 400) (hj : j < ea_str.length) (hj0 : 0 < ea_tl j) (h : et_M c L m p)
    (h0 : et_w c L p j = false → ∀ m1, et_F m m1 → m1 272 12 = nI (et_sb c L p) → eb_W (F (-1) m1) Q)
    (h01 : et_w c L p j = true → et_num c L (et_te c L p) lo hi = none → ∀ m1, et_F m m1 → m1 272 12 = nI (et_sb c L (et_te c L p)) → eb_W (F (-1) m1) Q)
    (h1 : et_w c L p j = true → ∀ v, et_num c L (et_te c L p) lo hi = some v → ∀ m1, et_F m m1 → et_M c L m1 (et_te c L (et_te c L p)) → eb_W (F (nI v) m1) Q) : eb_W (ea_cl (f_X12_after j lo hi m) F) Q := by
  have key : eb_W (f_X12_after j lo hi m) (fun z => eb_W (F z.1 z.2) Q) := by
    unfold f_X12_after
    refine et_mLet hL h fun r m1 k1 k2 => ?_
    rw [et_isWord hL hj hj0 k2, eb_clR]
    cases hw : et_w c L p j with
    | false =>
      rw [show eb_b2 false = 0 from rfl, if_pos rfl]
      exact eb_some (h0 hw m1 k1 k2.2.1)
    | true =>
      rw [show eb_b2 true = 1 from rfl, if_neg (by decide)]
      exact et_mNum hL (et_ML_w hL k2 hw) (fun hn m2 g1 g2 => eb_some (h01 hw hn m2 (et_F_trans k1 g1) g2)) (fun v hn m2 g1 g2 _ => eb_some (h1 hw v hn m2 (et_F_trans k1 g1) g2))
  exact eb_bind key fun z hz => hz
theorem et_mTold (hL : L ≤ 400) (hn : n ≤ 6) (h : et_M c L m p)
    (h0 : et_let c L p n = none → ∀ m1, et_F m m1 → m1 272 12 = nI (et_sb c L p) → eb_W (F (-1) m1) Q)
    (h1 : ∀ v, et_let c L p n = some v → ∀ m1, et_F m m1 → et_M c L m1 (et_te c L p) → eb_W (F v m1) Q) : eb_W (ea_cl (f_X12_lettersTold (nI n) m) F) Q := by
  have key : eb_W (f_X12_lettersTold (nI n) m) (fun z => eb_W (F z.1 z.2) Q) := by
    unfold f_X12_lettersTold
    refine et_mLet hL h fun r m1 k1 k2 => ?_
    obtain ⟨hp, h12, h10, h11, hT⟩ := id k2
    obtain ⟨s1, s2, _, _⟩ := et_sb_spec (c := c) hL hp
    rw [eb_bdR, h10, eb_bdR, h12]
    by_cases hk1 : et_kd c L (et_sb c L p) = 1
    · rw [if_pos hk1] at h10 ⊢
      obtain ⟨w1, w2, w3, w4⟩ := et_en_w (c := c) (b := et_sb c L p) hL (Or.inl hk1)
      have w1 : et_sb c L p < et_te c L p := w1
      have w2 : et_te c L p ≤ L := w2
      have hd : ∀ i, et_sb c L p ≤ i → i < et_te c L p → 97 ≤ c i ∧ c i ≤ 122 := fun i hi hi2 => by
        have := w3 i hi hi2
        rw [hk1] at this
        exact (et_kd1.mp this).2
      rw [if_neg (nI_ge w1 (by omega))]
      unfold f_X12_lettersTold_j22
      rw [eb_bdR, h12]
      refine eb_bind (P := fun z => z.2.2 = m1 ∧ ((z.2.1 = 0 ∧ et_let c L p n = none) ∨ (z.2.1 = 1 ∧ et_let c L p n = some z.1))) (eb_while (fun k s => ∃ q x b, et_sb c L p ≤ q ∧ q ≤ et_te c L p ∧ s = (x, b, nI q, m1) ∧ ((b = 1 ∧ k = L + 1 - q ∧ et_let c L p n = et_lb c n (et_te c L p - q) q x) ∨ (b = 0 ∧ k = 0 ∧ et_let c L p n = none))) ?_ ea_fuel (L + 1 - et_sb c L p) _ (by unfold ea_fuel; omega) ⟨et_sb c L p, 0, 1, Nat.le_refl _, by omega, rfl, Or.inl ⟨rfl, rfl, if_pos hk1⟩⟩) fun z hz => ?_
      · rintro k s ⟨q, x, b, q1, q2, rfl, ⟨rfl, rfl, hI⟩ | ⟨rfl, rfl, hI⟩⟩
        · unfold f_X12_lettersTold_s29
          dsimp only
          rw [eb_bdR, h10]
          by_cases hq : q = et_te c L p
          · rw [if_pos (nI_le (by omega) (by omega))]
            rw [hq, Nat.sub_self] at hI
            exact eb_some ⟨rfl, Or.inr ⟨rfl, hI⟩⟩
          · have hc := hd q q1 (by omega)
            rw [if_neg (nI_ge (by omega) (by omega)), if_neg (by decide), eb_gN (by omega) (by decide), eb_bdR, nI_clamp (by omega), (hT q (by omega)).2.1 (by omega), eb_bdR, show nI (c q) - 97 = nI (c q - 97) from pk_sub (b := 97) hc.1, eb_inN _ _ (by omega), eb_clR]
            rw [show et_te c L p - q = (et_te c L p - (q + 1)) + 1 by omega] at hI
            unfold et_lb at hI
            have hno : ∀ y, f_X12_lettersTold_j79 (nI n) x (nI q) y m1 = some (.inl (x ||| 0, 0, nI (q + 1), m1)) := fun y => by
              unfold f_X12_lettersTold_j79 f_X12_lettersTold_j80 f_X12_lettersTold_j94
              rw [if_pos rfl, eb_bdR, nI_1]
            by_cases hx : c q - 97 < n
            · rw [if_pos (eb_ixT hx (by omega)), if_neg (by decide)]
              by_cases hb : (x >>> (nI (c q - 97) &&& 31)) &&& 1 = 0
              · rw [eb_hasF ((eb_bit0 _ _).mp hb), eb_clR, if_pos rfl]
                unfold f_X12_lettersTold_j80 f_X12_lettersTold_j94
                rw [if_neg (by decide), eb_bdR, nI_1]
                rw [if_pos ⟨hx, hb⟩] at hI
                exact eb_some ⟨L + 1 - (q + 1), by omega, q + 1, _, 1, by omega, by omega, rfl, Or.inl ⟨rfl, rfl, hI⟩⟩
              · have hb1 : eb_bit x (c q - 97) := by
                  by_cases hbb : eb_bit x (c q - 97)
                  · exact hbb
                  · exact absurd ((eb_bit0 _ _).mpr hbb) hb
                rw [eb_hasT hb1, eb_clR, if_neg (by decide)]
                rw [hno]
                exact eb_some ⟨0, by omega, q + 1, _, 0, by omega, by omega, rfl, Or.inr ⟨rfl, rfl, by rw [hI, if_neg fun z => hb z.2]⟩⟩
            · rw [if_neg (show ¬ (0 ≤ nI (c q - 97) ∧ nI (c q - 97) < nI n) from fun z => hx ((nI_ltI (by have := (hT q (by omega)).1; omega) (by omega)).mp z.2)), if_pos rfl]
              rw [hno]
              exact eb_some ⟨0, by omega, q + 1, _, 0, by omega, by omega, rfl, Or.inr ⟨rfl, rfl, by rw [hI, if_neg fun z => hx z.1]⟩⟩
        · unfold f_X12_lettersTold_s29
          dsimp only
          rw [eb_bdR, h10]
          by_cases hq : et_te c L p ≤ q
          · rw [if_pos (nI_le hq (by omega))]
            exact eb_some ⟨rfl, Or.inl ⟨rfl, hI⟩⟩
          · rw [if_neg (nI_ge (by omega) (by omega)), if_pos rfl]
            exact eb_some ⟨rfl, Or.inl ⟨rfl, hI⟩⟩
      · obtain ⟨x, b, mz⟩ := z
        obtain ⟨z1, z2⟩ := hz
        dsimp only at z1 z2
        subst z1
        dsimp only
        rcases z2 with ⟨rfl, z2⟩ | ⟨rfl, z2⟩
        · rw [if_pos rfl]
          exact eb_some (h0 z2 _ k1 h12)
        · rw [if_neg (by decide)]
          exact eb_some (h1 x z2 _ k1 (et_M_at hL w2 h10 h11 hT))
    · rw [if_neg hk1] at h10 ⊢
      rw [if_pos (nI_le (Nat.le_refl _) (by omega))]
      unfold f_X12_lettersTold_j22
      rw [eb_bdR, h12, show ea_loop (f_X12_lettersTold_s29 (nI n)) ea_fuel (0, 0, nI (et_sb c L p), m1) = some (0, 0, m1) from eb_loop_inr (by
        unfold f_X12_lettersTold_s29
        dsimp only
        rw [eb_bdR, h10, if_pos (nI_le (Nat.le_refl _) (by omega))]) 99999, eb_obR]
      dsimp only
      rw [if_pos rfl]
      exact eb_some (h0 (if_neg hk1) m1 k1 h12)
  exact eb_bind key fun z hz => hz
end MODS
