section TOK
/-- on from p while P, at most n -/
def et_ru (P : Nat → Bool) : Nat → Nat → Nat
  | 0, p => p
  | n + 1, p => if P p then et_ru P n (p + 1) else p
theorem et_ru_spec {P : Nat → Bool} {N : Nat} (hN : ∀ j, P j = true → j < N) : ∀ (n p : Nat), N ≤ p + n → p ≤ et_ru P n p ∧ (et_ru P n p ≤ p ∨ et_ru P n p ≤ N) ∧ (∀ j, p ≤ j → j < et_ru P n p → P j = true) ∧ P (et_ru P n p) = false := by
  intro n
  induction n with
  | zero =>
    intro p h
    refine ⟨Nat.le_refl _, Or.inl (Nat.le_refl _), fun j h1 h2 => ?_, ?_⟩
    · have h2 : j < p := h2
      omega
    · show P p = false
      cases hp : P p with
      | false => rfl
      | true => have := hN p hp; omega
  | succ n ih =>
    intro p h
    unfold et_ru
    cases hp : P p with
    | false =>
      rw [if_neg (by decide)]
      exact ⟨Nat.le_refl _, Or.inl (Nat.le_refl _), fun j h1 h2 => by omega, hp⟩
    | true =>
      rw [if_pos rfl]
      obtain ⟨h1, h2, h3, h4⟩ := ih (p + 1) (by omega)
      have hpN := hN p hp
      refine ⟨by omega, Or.inr (by omega), fun j q1 q2 => ?_, h4⟩
      by_cases hj : j = p
      · rw [hj]; exact hp
      · exact h3 j (by omega) q2
theorem et_ru_eq {P : Nat → Bool} {N : Nat} (hN : ∀ j, P j = true → j < N) {n p q : Nat} (hn : N ≤ p + n) (h1 : p ≤ q) (h2 : ∀ j, p ≤ j → j < q → P j = true) (h3 : P q = false) : et_ru P n p = q := by
  obtain ⟨a1, _, a3, a4⟩ := et_ru_spec hN n p hn
  rcases Nat.lt_trichotomy (et_ru P n p) q with h | h | h
  · rw [h2 _ a1 h] at a4; cases a4
  · exact h
  · rw [a3 q h1 h] at h3; cases h3
/-- what stands at p: 0 the end, 1 a letter, 2 a figure, 3 a sign -/
def et_kd (c : Nat → Nat) (L p : Nat) : Nat := if p < L then (if 97 ≤ c p ∧ c p ≤ 122 then 1 else if 48 ≤ c p ∧ c p ≤ 57 then 2 else 3) else 0
/-- behind the blanks -/
def et_sb (c : Nat → Nat) (L p : Nat) : Nat := et_ru (fun j => decide (j < L ∧ c j = 32)) 400 p
/-- the end of the thing that stands at b -/
def et_en (c : Nat → Nat) (L b : Nat) : Nat := if et_kd c L b = 3 then b + 1 else if et_kd c L b = 0 then b else et_ru (fun j => decide (et_kd c L j = et_kd c L b)) 400 b
def et_te (c : Nat → Nat) (L p : Nat) : Nat := et_en c L (et_sb c L p)
variable {c : Nat → Nat} {L p q : Nat}
theorem et_blN (j : Nat) (h : (fun j => decide (j < L ∧ c j = 32)) j = true) : j < L := (of_decide_eq_true h).1
theorem et_sb_spec (hL : L ≤ 400) (hp : p ≤ L) : p ≤ et_sb c L p ∧ et_sb c L p ≤ L ∧ (∀ j, p ≤ j → j < et_sb c L p → j < L ∧ c j = 32) ∧ ¬ (et_sb c L p < L ∧ c (et_sb c L p) = 32) := by
  obtain ⟨h1, h2, h3, h4⟩ := et_ru_spec (P := fun j => decide (j < L ∧ c j = 32)) (N := L) et_blN 400 p (by omega)
  exact ⟨h1, by unfold et_sb; omega, fun j q1 q2 => of_decide_eq_true (h3 j q1 q2), of_decide_eq_false h4⟩
theorem et_sb_id (hL : L ≤ 400) (hp : p ≤ L) (h1 : p ≤ q) (h2 : q ≤ et_sb c L p) : et_sb c L q = et_sb c L p := by
  obtain ⟨a1, a2, a3, a4⟩ := et_sb_spec (c := c) hL hp
  exact et_ru_eq (N := L) et_blN (by omega) h2 (fun j q1 q2 => decide_eq_true (a3 j (by omega) q2)) (decide_eq_false a4)
theorem et_te_id (hL : L ≤ 400) (hp : p ≤ L) (h1 : p ≤ q) (h2 : q ≤ et_sb c L p) : et_te c L q = et_te c L p := by
  unfold et_te
  rw [et_sb_id hL hp h1 h2]
theorem et_kd0 {b : Nat} : et_kd c L b = 0 ↔ ¬ b < L := by
  unfold et_kd
  constructor
  · intro h hb
    rw [if_pos hb] at h
    split at h
    · cases h
    · split at h <;> cases h
  · intro h
    rw [if_neg h]
theorem et_kd1 {b : Nat} : et_kd c L b = 1 ↔ b < L ∧ 97 ≤ c b ∧ c b ≤ 122 := by
  unfold et_kd
  constructor
  · intro h
    split at h
    · rename_i hb
      split at h
      · rename_i hc; exact ⟨hb, hc⟩
      · split at h <;> cases h
    · cases h
  · intro h
    rw [if_pos h.1, if_pos h.2]
theorem et_kd2 {b : Nat} : et_kd c L b = 2 ↔ b < L ∧ 48 ≤ c b ∧ c b ≤ 57 := by
  unfold et_kd
  constructor
  · intro h
    split at h
    · rename_i hb
      split at h
      · cases h
      · split at h
        · rename_i hc; exact ⟨hb, hc⟩
        · cases h
    · cases h
  · intro h
    rw [if_pos h.1, if_neg (by omega), if_pos h.2]
theorem et_kd3 {b : Nat} : et_kd c L b = 3 ↔ b < L ∧ ¬ (97 ≤ c b ∧ c b ≤ 122) ∧ ¬ (48 ≤ c b ∧ c b ≤ 57) := by
  unfold et_kd
  constructor
  · intro h
    split at h
    · rename_i hb
      split at h
      · cases h
      · rename_i h1
        split at h
        · cases h
        · rename_i h2; exact ⟨hb, h1, h2⟩
    · cases h
  · intro h
    rw [if_pos h.1, if_neg h.2.1, if_neg h.2.2]
theorem et_kd_le {b : Nat} : et_kd c L b ≤ 3 := by
  unfold et_kd
  split
  · split
    · decide
    · split <;> decide
  · decide
theorem et_en_w {b : Nat} (hL : L ≤ 400) (h : et_kd c L b = 1 ∨ et_kd c L b = 2) : b < et_en c L b ∧ et_en c L b ≤ L ∧ (∀ j, b ≤ j → j < et_en c L b → et_kd c L j = et_kd c L b) ∧ et_kd c L (et_en c L b) ≠ et_kd c L b := by
  have hb : b < L := by
    by_cases q : b < L
    · exact q
    · have := (et_kd0 (c := c)).mpr q; omega
  have hN : ∀ j, (fun j => decide (et_kd c L j = et_kd c L b)) j = true → j < L := fun j hj => by
    have hj := of_decide_eq_true hj
    by_cases q : j < L
    · exact q
    · have := (et_kd0 (c := c)).mpr q; omega
  have e : et_en c L b = et_ru (fun j => decide (et_kd c L j = et_kd c L b)) 400 b := by
    unfold et_en
    rw [if_neg (by omega), if_neg (by omega)]
  obtain ⟨h1, h2, h3, h4⟩ := et_ru_spec hN 400 b (by omega)
  rw [← e] at h1 h2 h3 h4
  have h4 := of_decide_eq_false h4
  have hne : b ≠ et_en c L b := fun z => h4 (by rw [← z])
  exact ⟨by omega, by omega, fun j q1 q2 => of_decide_eq_true (h3 j q1 q2), h4⟩
theorem et_en_le {b : Nat} (hL : L ≤ 400) (hb : b ≤ L) : b ≤ et_en c L b ∧ et_en c L b ≤ L ∧ (et_kd c L b ≠ 0 → b < et_en c L b) := by
  by_cases h0 : et_kd c L b = 0
  · have e : et_en c L b = b := by unfold et_en; rw [if_neg (by omega), if_pos h0]
    omega
  · by_cases h3 : et_kd c L b = 3
    · have e : et_en c L b = b + 1 := by unfold et_en; rw [if_pos h3]
      have := (et_kd3.mp h3).1
      omega
    · have := et_kd_le (c := c) (L := L) (b := b)
      obtain ⟨h1, h2, _, _⟩ := et_en_w (c := c) (b := b) hL (by omega)
      omega
theorem et_te_le (hL : L ≤ 400) (hp : p ≤ L) : p ≤ et_te c L p ∧ et_te c L p ≤ L ∧ (et_kd c L (et_sb c L p) ≠ 0 → p < et_te c L p) := by
  obtain ⟨a1, a2, _, _⟩ := et_sb_spec (c := c) hL hp
  obtain ⟨b1, b2, b3⟩ := et_en_le (c := c) (b := et_sb c L p) hL a2
  refine ⟨by unfold et_te; omega, b2, fun h => ?_⟩
  have := b3 h
  unfold et_te
  omega
/-! the reader of the texts at row a -/
theorem et_stst (m : ea_M) (a i : Nat) (x y : Int32) : ea_st (ea_st m a i x) a i y = ea_st m a i y := by
  funext b j
  rw [eb_sts, eb_sts m a i b j y]
  by_cases h : b = a ∧ j = i
  · rw [if_pos h, if_pos h]
  · rw [if_neg h, if_neg h, eb_sts, if_neg h]
/-- the tapes hold the bytes c -/
def et_T1 (c : Nat → Nat) (m : ea_M) : Prop := ∀ j, j < 400 → c j < 256 ∧ m 1 j = nI (c j)
def et_T2 (c : Nat → Nat) (m : ea_M) : Prop := ∀ j, j < 400 → c j < 256 ∧ (c j < 128 → m 278 j = nI (c j)) ∧ (128 ≤ c j → m 278 j < 0)
variable {m : ea_M} {a : Nat}
theorem et_kindAt (hL : L ≤ 400) (hT : et_T1 c m) (h1 : m a 1 = nI L) (hq : q ≤ L) : f_X9_kindAt a (nI q) m = some (nI (et_kd c L q), m) := by
  unfold f_X9_kindAt
  rw [eb_bdR, h1]
  by_cases h : q < L
  · obtain ⟨hc, ht⟩ := hT q (by omega)
    rw [if_pos (nI_lt h (by omega)), eb_gN (by omega) (by decide), eb_bdR, nI_clamp (by omega), ht]
    have hj : ¬ (97 ≤ c q ∧ c q ≤ 122) → f_X9_kindAt_j34 a (nI q) m = some (nI (et_kd c L q), m) := by
      intro hn
      unfold f_X9_kindAt_j34
      rw [eb_gN (by omega) (by decide), eb_bdR, nI_clamp (by omega), ht]
      by_cases h8 : c q < 48
      · rw [if_pos (show nI (c q) < 48 from (show nI (c q) < nI 48 from nI_lt h8 (by decide))), et_kd3.mpr ⟨h, hn, by omega⟩]
        rfl
      · rw [if_neg (show ¬ nI (c q) < 48 from (show ¬ nI (c q) < nI 48 from nI_nlt (by omega) (by omega))), eb_gN (by omega) (by decide), eb_bdR]
        by_cases h9 : 57 < c q
        · rw [if_pos (show 57 < nI (c q) from (show nI 57 < nI (c q) from nI_lt h9 (by omega))), et_kd3.mpr ⟨h, hn, by omega⟩]
          rfl
        · rw [if_neg (show ¬ 57 < nI (c q) from (show ¬ nI 57 < nI (c q) from nI_nlt (by omega) (by omega))), et_kd2.mpr ⟨h, by omega, by omega⟩]
          rfl
    by_cases h7 : c q < 97
    · rw [if_pos (show nI (c q) < 97 from (show nI (c q) < nI 97 from nI_lt h7 (by decide)))]
      exact hj (by omega)
    · rw [if_neg (show ¬ nI (c q) < 97 from (show ¬ nI (c q) < nI 97 from nI_nlt (by omega) (by omega))), eb_gN (by omega) (by decide), eb_bdR]
      by_cases h2 : 122 < c q
      · rw [if_pos (show 122 < nI (c q) from (show nI 122 < nI (c q) from nI_lt h2 (by omega)))]
        exact hj (by omega)
      · rw [if_neg (show ¬ 122 < nI (c q) from (show ¬ nI 122 < nI (c q) from nI_nlt (by omega) (by omega))), et_kd1.mpr ⟨h, by omega, by omega⟩]
        rfl
  · rw [if_neg (nI_nlt (by omega) (by omega)), et_kd0.mpr h]
    rfl
/-- the reader stands at the thing behind p -/
def et_R (c : Nat → Nat) (L a : Nat) (m : ea_M) (p : Nat) : Prop := p ≤ L ∧ m a 1 = nI L ∧ m a 2 = nI (et_kd c L (et_sb c L p)) ∧ m a 3 = nI (et_sb c L p) ∧ m a 4 = nI (et_te c L p)
theorem et_step (hL : L ≤ 400) (ha : a ≠ 1) (hT : et_T1 c m) (h1 : m a 1 = nI L) (h4 : m a 4 = nI p) (hp : p ≤ L) : eb_W (f_X9_step a m) (fun z => et_R c L a z.2 p ∧ ∀ b i, ¬ (b = a ∧ (i = 2 ∨ i = 3 ∨ i = 4)) → z.2 b i = m b i) := by
  obtain ⟨s1, s2, s3, s4⟩ := et_sb_spec (c := c) hL hp
  have hTs : ∀ i v, et_T1 c (ea_st m a i v) := fun i v j hj => by rw [eb_stA _ _ _ (Ne.symm ha)]; exact hT j hj
  unfold f_X9_step
  refine eb_bdV h4 (eb_bd (eb_bind (P := fun z => z = ea_st m a 3 (nI (et_sb c L p))) (eb_while (fun n s => ∃ q, n = L - q ∧ p ≤ q ∧ q ≤ et_sb c L p ∧ s = ea_st m a 3 (nI q)) ?_ ea_fuel (L - p) _ (by unfold ea_fuel; omega) ⟨p, rfl, Nat.le_refl _, s1, rfl⟩) fun z hz => ?_))
  · rintro n s ⟨q, rfl, q1, q2, rfl⟩
    unfold f_X9_step_s8
    refine eb_bdV (eb_st m a 3 (nI q)) (eb_bdV (w := nI L) (by rw [eb_stI _ _ _ (by decide)]; exact h1) ?_)
    by_cases hq : q = et_sb c L p
    · by_cases hqL : q < L
      · refine eb_else (nI_ge hqL (by omega)) (eb_bdV (eb_st m a 3 (nI q)) (eb_g q (by omega) (eb_bd (eb_else ?_ (eb_some (by rw [hq]))))))
        rw [nI_clamp (by omega), ((hTs 3 (nI q)) q (by omega)).2]
        show ¬ nI (c q) = nI 32
        rw [nI_eq (by have := (hT q (by omega)).1; omega) (by decide)]
        intro z
        exact s4 (by rw [← hq]; exact ⟨hqL, z⟩)
      · exact eb_if (nI_le (by omega) (by omega)) (eb_some (by rw [hq]))
    · obtain ⟨k1, k2⟩ := s3 q q1 (by omega)
      refine eb_else (nI_ge k1 (by omega)) (eb_bdV (eb_st m a 3 (nI q)) (eb_g q (by omega) (eb_bd (eb_if ?_ (eb_bdV (eb_st m a 3 (nI q)) (eb_bd (eb_some ⟨L - (q + 1), by omega, q + 1, rfl, by omega, by omega, ?_⟩)))))))
      · rw [nI_clamp (by omega), ((hTs 3 (nI q)) q (by omega)).2, k2]
        rfl
      · rw [et_stst, nI_1]
  · subst hz
    refine eb_bdV (eb_st _ _ _ _) (eb_bdE fun m10 e10 => ?_)
    have f3 : m10 a 3 = nI (et_sb c L p) := by rw [e10, eb_stI _ _ _ (by decide), eb_st]
    have f1 : m10 a 1 = nI L := by rw [e10, eb_stI _ _ _ (by decide), eb_stI _ _ _ (by decide)]; exact h1
    have f4 : m10 a 4 = nI (et_sb c L p) := by rw [e10, eb_st]
    have fo : ∀ b i, ¬ (b = a ∧ (i = 3 ∨ i = 4)) → m10 b i = m b i := fun b i hb => by
      rw [e10, eb_sts, if_neg (by omega), eb_sts, if_neg (by omega)]
    have fT : et_T1 c m10 := fun j hj => by rw [fo 1 j (by omega)]; exact hT j hj
    clear e10
    refine eb_bdV f3 ?_
    rw [et_kindAt hL fT f1 s2, eb_clR]
    refine eb_bdE fun m14 e14 => ?_
    have g2 : m14 a 2 = nI (et_kd c L (et_sb c L p)) := by rw [e14, eb_st]
    have go : ∀ b i, ¬ (b = a ∧ i = 2) → m14 b i = m10 b i := fun b i hb => by rw [e14, eb_sts, if_neg hb]
    clear e14
    have hk := et_kd_le (c := c) (L := L) (b := et_sb c L p)
    refine eb_bdV g2 ?_
    by_cases k3 : et_kd c L (et_sb c L p) = 3
    · refine eb_if (by rw [k3]; rfl) (eb_bdV (w := nI (et_sb c L p)) (by rw [go _ _ (by omega)]; exact f4) (eb_bd (eb_some ⟨⟨hp, ?_, ?_, ?_, ?_⟩, fun b i hb => ?_⟩)))
      · show ea_st m14 a 4 _ a 1 = _
        rw [eb_stI _ _ _ (by decide), go _ _ (by omega)]; exact f1
      · show ea_st m14 a 4 _ a 2 = _
        rw [eb_stI _ _ _ (by decide)]; exact g2
      · show ea_st m14 a 4 _ a 3 = _
        rw [eb_stI _ _ _ (by decide), go _ _ (by omega)]; exact f3
      · show ea_st m14 a 4 _ a 4 = _
        rw [eb_st, nI_1]
        unfold et_te et_en
        rw [if_pos k3]
      · show ea_st m14 a 4 _ b i = _
        rw [eb_sts, if_neg (by omega), go _ _ (by omega), fo _ _ (by omega)]
    · refine eb_else (fun z => k3 ((nI_eq (b := 3) (by omega) (by decide)).mp z)) (eb_bdV g2 ?_)
      by_cases k0 : et_kd c L (et_sb c L p) = 0
      · refine eb_if (by rw [k0]; rfl) (eb_some ⟨⟨hp, ?_, g2, ?_, ?_⟩, fun b i hb => ?_⟩)
        · show m14 a 1 = _
          rw [go _ _ (by omega)]; exact f1
        · show m14 a 3 = _
          rw [go _ _ (by omega)]; exact f3
        · show m14 a 4 = _
          rw [go _ _ (by omega), f4]
          unfold et_te et_en
          rw [if_neg k3, if_pos k0]
        · show m14 b i = _
          rw [go _ _ (by omega), fo _ _ (by omega)]
      · refine eb_else (fun z => k0 ((nI_eq (b := 0) (by omega) (by decide)).mp z)) ?_
        obtain ⟨w1, w2, w3, w4⟩ := et_en_w (c := c) (b := et_sb c L p) hL (by omega)
        obtain ⟨b0, eb0⟩ : ∃ b0, b0 = et_sb c L p := ⟨_, rfl⟩
        obtain ⟨e0, ee0⟩ : ∃ e0, e0 = et_te c L p := ⟨_, rfl⟩
        have ee1 : et_en c L (et_sb c L p) = e0 := ee0.symm
        rw [ee1] at w1 w2 w3 w4
        have gT : et_T1 c m14 := fun j hj => by rw [go 1 j (by omega)]; exact fT j hj
        have hTs : ∀ v, et_T1 c (ea_st m14 a 4 v) := fun v j hj => by rw [eb_stA _ _ _ (Ne.symm ha)]; exact gT j hj
        have hst : ea_st m14 a 4 (nI (et_sb c L p)) = m14 := by
          funext b i
          rw [eb_sts]
          by_cases hb : b = a ∧ i = 4
          · rw [if_pos hb, hb.1, hb.2, go _ _ (by omega)]; exact f4.symm
          · rw [if_neg hb]
        refine eb_bind (P := fun z => z = ea_st m14 a 4 (nI e0)) (eb_while (fun n s => ∃ q, n = L - q ∧ et_sb c L p ≤ q ∧ q ≤ e0 ∧ s = ea_st m14 a 4 (nI q)) ?_ ea_fuel (L - et_sb c L p) _ (by unfold ea_fuel; omega) ⟨et_sb c L p, rfl, Nat.le_refl _, by omega, hst.symm⟩) fun z hz => eb_some ?_
        · rintro n s ⟨q, rfl, q1, q2, rfl⟩
          unfold f_X9_step_s94
          have gl : ea_st m14 a 4 (nI q) a 1 = nI L := by rw [eb_stI _ _ _ (by decide), go _ _ (by omega)]; exact f1
          refine eb_bdV (eb_st m14 a 4 (nI q)) (eb_bdV gl ?_)
          by_cases hq : q = e0
          · subst hq
            by_cases hqL : q < L
            · refine eb_else (nI_ge hqL (by omega)) (eb_bdV (eb_st m14 a 4 (nI q)) ?_)
              rw [et_kindAt hL (hTs _) gl (by omega), eb_clR]
              refine eb_bdV (w := nI (et_kd c L (et_sb c L p))) (by rw [eb_stI _ _ _ (by decide)]; exact g2) (eb_else ?_ (eb_some rfl))
              have := et_kd_le (c := c) (L := L) (b := q)
              rw [nI_eq (by omega) (by omega)]
              exact w4
            · exact eb_if (nI_le (by omega) (by omega)) (eb_some rfl)
          · refine eb_else (nI_ge (by omega) (by omega)) (eb_bdV (eb_st m14 a 4 (nI q)) ?_)
            rw [et_kindAt hL (hTs _) gl (by omega), eb_clR]
            refine eb_bdV (w := nI (et_kd c L (et_sb c L p))) (by rw [eb_stI _ _ _ (by decide)]; exact g2) (eb_if (by rw [w3 q q1 (by omega)]) (eb_bdV (eb_st m14 a 4 (nI q)) (eb_bd (eb_some ⟨L - (q + 1), by omega, q + 1, rfl, by omega, by omega, ?_⟩))))
            rw [et_stst, nI_1]
        · subst hz
          refine ⟨⟨hp, ?_, ?_, ?_, ?_⟩, fun b i hb => ?_⟩
          · show ea_st m14 a 4 _ a 1 = _
            rw [eb_stI _ _ _ (by decide), go _ _ (by omega)]; exact f1
          · show ea_st m14 a 4 _ a 2 = _
            rw [eb_stI _ _ _ (by decide)]; exact g2
          · show ea_st m14 a 4 _ a 3 = _
            rw [eb_stI _ _ _ (by decide), go _ _ (by omega)]; exact f3
          · show ea_st m14 a 4 _ a 4 = _
            rw [eb_st, ee0]
          · show ea_st m14 a 4 _ b i = _
            rw [eb_sts, if_neg (by omega), go _ _ (by omega), fo _ _ (by omega)]
end TOK
