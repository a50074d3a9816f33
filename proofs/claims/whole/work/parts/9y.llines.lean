section LLINES
variable {c : Nat → Nat} {L p n b d i ln : Nat} {m m0 : ea_M} {s v D : Nat → Int32} {τ : Type} {Q : τ → Prop} {F : Int32 → ea_M → Option τ}
/-- the lines of a law's draft are right -/
def et_V (ln n : Nat) (s D : Nat → Int32) : Prop := ∀ k, k < ln → eb_rg (D (4 * k)) 3 ∧ ∃ b t, b ≤ t ∧ t ≤ n ∧ D (4 * k + 2) = nI b ∧ D (4 * k + 3) = nI t ∧ (b = t ∨ et_ty s (t - b) b [] = some [true])
def et_Kf (m0 m : ea_M) : Prop := eb_fr (fun x => x = 49 ∨ (38 ≤ x ∧ x ≤ 43)) m0 m
theorem et_Kf_fa {m1 m2 : ea_M} (h : et_Kf m0 m1) (k : et_fa 49 m1 m2) : et_Kf m0 m2 := eb_fr_trans h (eb_fr_sub k fun a ha => Or.inl ha)
theorem et_Kf_LF {m1 m2 : ea_M} (h : et_Kf m0 m1) (k : et_LF m1 m2) : et_Kf m0 m2 := fun b hb => funext fun i => (k b i (by omega) (by omega) (by omega)).trans (congrFun (h b hb) i)
def et_KS (c : Nat → Nat) (L : Nat) (m0 m : ea_M) (p ln n : Nat) (s v D : Nat → Int32) : Prop := et_S c L 49 m p ∧ m 38 0 = nI ln ∧ m 38 1 = nI n ∧ (∀ i, i < n → eb_sg (m 43 i) (s i) (v i)) ∧ (∀ k, k < ln → m 39 k = D (4 * k) ∧ m 40 k = D (4 * k + 1) ∧ m 41 k = D (4 * k + 2) ∧ m 42 k = D (4 * k + 3)) ∧ et_Kf m0 m
theorem et_KS_fa {m1 : ea_M} {q : Nat} (h : et_KS c L m0 m p ln n s v D) (k : et_fa 49 m m1) (hS : et_S c L 49 m1 q) : et_KS c L m0 m1 q ln n s v D := by
  obtain ⟨_, h0, h1, h2, h3, h4⟩ := h
  refine ⟨hS, by rw [k 38 (by decide)]; exact h0, by rw [k 38 (by decide)]; exact h1, fun i hi => by rw [k 43 (by decide)]; exact h2 i hi, fun i hi => ?_, et_Kf_fa h4 k⟩
  rw [k 39 (by decide), k 40 (by decide), k 41 (by decide), k 42 (by decide)]
  exact h3 i hi
def et_KF (m0 m : ea_M) : Prop := ∀ b i, ¬ (b = 272 ∧ (i = 10 ∨ i = 12 ∨ i = 13 ∨ i = 16)) → ¬ (b = 273 ∧ 1331 ≤ i) → m b i = m0 b i
theorem et_KF_F {m1 m2 : ea_M} (h : et_KF m0 m1) (k : et_F m1 m2) : et_KF m0 m2 := fun b i h1 h2 => by rw [k b i (by omega)]; exact h b i h1 h2
theorem et_KF_DF {m1 m2 : ea_M} (h : et_KF m0 m1) (k : et_DF m1 m2) : et_KF m0 m2 := fun b i h1 h2 => by rw [k b i h1 (by omega)]; exact h b i h1 h2
theorem et_KF_st {m1 : ea_M} (h : et_KF m0 m1) {i : Nat} (hi : 1331 ≤ i) (v : Int32) : et_KF m0 (ea_st m1 273 i v) := fun b k h1 h2 => by rw [eb_sts, if_neg (by omega)]; exact h b k h1 h2
def et_KN (m0 m : ea_M) (ln n : Nat) (s v D : Nat → Int32) : Prop := m 272 16 = nI n ∧ (∀ i, i < n → m 273 (1380 + 2 * i) = s i ∧ m 273 (1381 + 2 * i) = v i) ∧ (∀ j, j < 4 * ln → m 273 (1332 + j) = D j) ∧ et_KF m0 m
theorem et_KN_F {m1 : ea_M} (h : et_KN m0 m ln n s v D) (k : et_F m m1) : et_KN m0 m1 ln n s v D := ⟨by rw [k 272 16 (by omega)]; exact h.1, fun i hi => by rw [et_F_w k]; exact h.2.1 i hi, fun j hj => by rw [et_F_w k]; exact h.2.2.1 j hj, et_KF_F h.2.2.2 k⟩
abbrev et_Ko : Type := Nat ⊕ (Nat × Nat × (Nat → Int32) × (Nat → Int32) × (Nat → Int32))
def et_KC (c : Nat → Nat) (L : Nat) (m0 : ea_M) (ln : Nat) (o : et_Ko) (z : Int32 × ea_M) : Prop := match o with
  | .inl f => z.1 = 0 ∧ et_Kf m0 z.2 ∧ z.2 49 6 = nI f
  | .inr q => z.1 = 1 ∧ et_KS c L m0 z.2 q.1 ln q.2.1 q.2.2.1 q.2.2.2.1 q.2.2.2.2
def et_KE (c : Nat → Nat) (L : Nat) (m0 : ea_M) (ln : Nat) (o : et_Ko) (z : Int32 × ea_M) : Prop := match o with
  | .inl f => z.1 = 0 ∧ et_KF m0 z.2 ∧ z.2 272 12 = nI f
  | .inr q => z.1 = 1 ∧ et_M c L z.2 q.1 ∧ et_KN m0 z.2 ln q.2.1 q.2.2.1 q.2.2.2.1 q.2.2.2.2
def et_Kk (L p ln : Nat) (o : et_Ko) : Prop := match o with
  | .inl f => f ≤ L
  | .inr q => p ≤ q.1 ∧ q.1 ≤ L ∧ q.2.1 ≤ q.1 ∧ et_V ln q.2.1 q.2.2.1 q.2.2.2.2
/-- the kind of a line -/
def et_lk (c : Nat → Nat) (L p : Nat) : Option Nat := if et_w c L p 18 = true then some 0 else if et_w c L p 19 = true then some 1 else if et_w c L p 20 = true then some 2 else if et_w c L p 21 = true then some 3 else none
theorem et_lk_some {k : Nat} (hL : L ≤ 400) (hp : p ≤ L) (h : et_lk c L p = some k) : k ≤ 3 ∧ p + 4 ≤ et_te c L p ∧ ∃ j, et_w c L p j = true := by
  have hw : ∀ j, ea_tl j = 4 → et_w c L p j = true → p + 4 ≤ et_te c L p := fun j hj hjw => by
    have h1 := (of_decide_eq_true hjw).2.1
    have h2 := (et_sb_spec (c := c) hL hp).1
    omega
  unfold et_lk at h
  split at h
  · rename_i q; have e := Option.some.inj h; subst e; exact ⟨by decide, hw 18 (by decide +kernel) q, 18, q⟩
  · split at h
    · rename_i q; have e := Option.some.inj h; subst e; exact ⟨by decide, hw 19 (by decide +kernel) q, 19, q⟩
    · split at h
      · rename_i q; have e := Option.some.inj h; subst e; exact ⟨by decide, hw 20 (by decide +kernel) q, 20, q⟩
      · split at h
        · rename_i q; have e := Option.some.inj h; subst e; exact ⟨by decide, hw 21 (by decide +kernel) q, 21, q⟩
        · cases h
theorem et_lineKind (hL : L ≤ 400) (h : et_S c L 49 m p) : f_X8_lineKind m = some (match et_lk c L p with | none => -1 | some f => nI f, m) := by
  unfold f_X8_lineKind et_lk
  rw [et_sees hL (by decide) h, eb_clR]
  cases et_w c L p 18 with
  | true => rfl
  | false =>
    rw [show eb_b2 false = 0 from rfl, if_pos rfl, if_neg (by decide), et_sees hL (by decide) h, eb_clR]
    cases et_w c L p 19 with
    | true => rfl
    | false =>
      rw [show eb_b2 false = 0 from rfl, if_pos rfl, if_neg (by decide), et_sees hL (by decide) h, eb_clR]
      cases et_w c L p 20 with
      | true => rfl
      | false =>
        rw [show eb_b2 false = 0 from rfl, if_pos rfl, if_neg (by decide), et_sees hL (by decide) h, eb_clR]
        cases et_w c L p 21 with
        | true => rfl
        | false => rfl
theorem et_lawLine (hL : L ≤ 400) (h : et_ML c L m p) : f_X12_readLawLine (nI ln) m = f_X12_readLawLine_j66 (nI (1332 + 4 * ln)) (nI (1332 + 4 * ln)) (match et_lk c L p with | none => -1 | some f => nI f) m := by
  unfold f_X12_readLawLine et_lk
  rw [eb_bdR, show (1332 : Int32) + 4 * nI ln = nI (1332 + 4 * ln) by show nI 1332 + nI 4 * nI ln = _; rw [pk_mul, nI_add], et_isWordE (j := 62) (j' := 18) hL (by decide) (by decide +kernel) rfl h, eb_clR]
  cases et_w c L p 18 with
  | true => rfl
  | false =>
    rw [show eb_b2 false = 0 from rfl, if_pos rfl, if_neg (by decide), et_isWordE (j := 63) (j' := 19) hL (by decide) (by decide +kernel) rfl h, eb_clR]
    cases et_w c L p 19 with
    | true => rfl
    | false =>
      rw [show eb_b2 false = 0 from rfl, if_pos rfl, if_neg (by decide), et_isWordE (j := 60) (j' := 20) hL (by decide) (by decide +kernel) rfl h, eb_clR]
      cases et_w c L p 20 with
      | true => rfl
      | false =>
        rw [show eb_b2 false = 0 from rfl, if_pos rfl, if_neg (by decide), et_isWordE (j := 59) (j' := 21) hL (by decide) (by decide +kernel) rfl h, eb_clR]
        cases et_w c L p 21 with
        | true => rfl
        | false => rfl
/-- a line more -/
def et_Dn (D : Nat → Int32) (ln k x b t : Nat) : Nat → Int32 := fun j => if j = 4 * ln then nI k else if j = 4 * ln + 1 then nI x else if j = 4 * ln + 2 then nI b else if j = 4 * ln + 3 then nI t else D j
theorem et_V_more {k x t : Nat} {s' : Nat → Int32} (h : et_V ln n s D) (hk : k ≤ 3) (ht : n ≤ t) (hs : ∀ i, i < n → s' i = s i) (hty : n = t ∨ et_ty s' (t - n) n [] = some [true]) : et_V (ln + 1) t s' (et_Dn D ln k x n t) := fun j hj => by
  by_cases q : j = ln
  · subst q
    unfold et_Dn
    rw [if_pos rfl, if_neg (by omega), if_neg (by omega), if_pos rfl, if_neg (by omega), if_neg (by omega), if_neg (by omega), if_pos rfl]
    exact ⟨⟨k, hk, rfl⟩, n, t, ht, Nat.le_refl _, rfl, rfl, hty⟩
  · obtain ⟨h1, b, u, g1, g2, g3, g4, g5⟩ := h j (by omega)
    unfold et_Dn
    rw [if_neg (by omega), if_neg (by omega), if_neg (by omega), if_neg (by omega), if_neg (by omega), if_neg (by omega), if_neg (by omega), if_neg (by omega), if_neg (by omega), if_neg (by omega), if_neg (by omega), if_neg (by omega)]
    refine ⟨h1, b, u, g1, by omega, g3, g4, ?_⟩
    rcases g5 with g5 | g5
    · exact Or.inl g5
    · exact Or.inr (by rw [et_ty_cg (s := s) _ _ _ fun i h1 h2 => hs i (by omega)]; exact g5)
theorem et_closeLine {k x bb t : Nat} {s' v' : Nat → Int32} (hln : ln < 12) (hS : et_S c L 49 m p) (h0 : m 38 0 = nI ln) (h1 : m 38 1 = nI t) (h2 : ∀ i, i < t → eb_sg (m 43 i) (s' i) (v' i)) (h3 : ∀ k, k < ln → m 39 k = D (4 * k) ∧ m 40 k = D (4 * k + 1) ∧ m 41 k = D (4 * k + 2) ∧ m 42 k = D (4 * k + 3)) (h39 : m 39 ln = nI k) (h40 : m 40 ln = nI x) (h41 : m 41 ln = nI bb) (hf : et_Kf m0 m) : eb_W (f_X8_takesLine_j84 m) (fun z => z.1 = 1 ∧ et_KS c L m0 z.2 p (ln + 1) t s' v' (et_Dn D ln k x bb t)) := by
  unfold f_X8_takesLine_j84 f_X7_closeLine
  rw [eb_bdR, h0, if_neg (show ¬ 12 ≤ nI ln from (show ¬ nI 12 ≤ nI ln from nI_ge hln (by decide))), eb_bdR, eb_bdR, h1, eb_gN hln (by decide), nI_clamp (by omega), eb_bdR, eb_bdR, eb_stA _ _ _ (by decide), h0, eb_bdR, nI_1, eb_clR]
  have r : ∀ a i, ¬ (a = 38 ∧ i = 0) → ¬ (a = 42 ∧ i = ln) → ea_st (ea_st m 42 ln (nI t)) 38 0 (nI (ln + 1)) a i = m a i := fun a i q1 q2 => by rw [eb_sts, if_neg q1, eb_sts, if_neg q2]
  have r42 : ea_st (ea_st m 42 ln (nI t)) 38 0 (nI (ln + 1)) 42 ln = nI t := by rw [eb_stA _ _ _ (by decide), eb_st]
  have r0 : ea_st (ea_st m 42 ln (nI t)) 38 0 (nI (ln + 1)) 38 0 = nI (ln + 1) := eb_st _ _ _ _
  show eb_W (some (1, ea_st (ea_st m 42 ln (nI t)) 38 0 (nI (ln + 1)))) _
  obtain ⟨mz, ez⟩ : ∃ mz, mz = ea_st (ea_st m 42 ln (nI t)) 38 0 (nI (ln + 1)) := ⟨_, rfl⟩
  rw [← ez] at r r42 r0 ⊢
  refine eb_some ⟨rfl, et_S_fr hS (funext fun i => r 49 i (by omega) (by omega)) (funext fun i => r 1 i (by omega) (by omega)), r0, (r 38 1 (by omega) (by omega)).trans h1, fun i hi => ?_, fun j hj => ?_, fun a ha => funext fun i => (r a i (by omega) (by omega)).trans (congrFun (hf a ha) i)⟩
  · dsimp only
    rw [r 43 i (by omega) (by omega)]; exact h2 i hi
  · dsimp only
    rw [r 39 j (by omega) (by omega), r 40 j (by omega) (by omega), r 41 j (by omega) (by omega)]
    unfold et_Dn
    by_cases q : j = ln
    · subst q
      rw [r42, if_pos rfl, if_neg (by omega), if_pos rfl, if_neg (by omega), if_neg (by omega), if_pos rfl, if_neg (by omega), if_neg (by omega), if_neg (by omega), if_pos rfl]
      exact ⟨h39, h40, h41, rfl⟩
    · rw [r 42 j (by omega) (by omega), if_neg (by omega), if_neg (by omega), if_neg (by omega), if_neg (by omega), if_neg (by omega), if_neg (by omega), if_neg (by omega), if_neg (by omega), if_neg (by omega), if_neg (by omega), if_neg (by omega), if_neg (by omega), if_neg (by omega), if_neg (by omega), if_neg (by omega), if_neg (by omega)]
      exact h3 j (by omega)
theorem et_openLine {k x : Nat} (hln : ln < 12) (h : et_KS c L m0 m p ln n s v D) : ∃ m1, f_X7_openLine 38 (nI k) (nI x) m = some (0, m1) ∧ et_KS c L m0 m1 p ln n s v D ∧ m1 39 ln = nI k ∧ m1 40 ln = nI x ∧ m1 41 ln = nI n := by
  obtain ⟨hS, h0, h1, h2, h3, hf⟩ := h
  have r : ∀ a i, ¬ (39 ≤ a ∧ a ≤ 41 ∧ i = ln) → ea_st (ea_st (ea_st m 39 ln (nI k)) 40 ln (nI x)) 41 ln (nI n) a i = m a i := fun a i q1 => by rw [eb_sts, if_neg (by omega), eb_sts, if_neg (by omega), eb_sts, if_neg (by omega)]
  refine ⟨ea_st (ea_st (ea_st m 39 ln (nI k)) 40 ln (nI x)) 41 ln (nI n), ?_, ⟨et_S_fr hS (funext fun i => r 49 i (by omega)) (funext fun i => r 1 i (by omega)), (r 38 0 (by omega)).trans h0, (r 38 1 (by omega)).trans h1, fun i hi => by rw [r 43 i (by omega)]; exact h2 i hi, fun j hj => ?_, fun a ha => funext fun i => (r a i (by omega)).trans (congrFun (hf a ha) i)⟩, ?_, ?_, eb_st _ _ _ _⟩
  · unfold f_X7_openLine
    rw [eb_bdR, h0, if_neg (show ¬ 12 ≤ nI ln from (show ¬ nI 12 ≤ nI ln from nI_ge hln (by decide))), eb_bdR, eb_gN hln (by decide), nI_clamp (by omega), eb_bdR, eb_bdR, eb_stA _ _ _ (by decide), h0, eb_gN hln (by decide), nI_clamp (by omega), eb_bdR, eb_bdR, eb_stA _ _ _ (by decide), eb_stA _ _ _ (by decide), h0, eb_bdR, h1, eb_gN hln (by decide), nI_clamp (by omega), eb_bdR]
  · rw [r 39 j (by omega), r 40 j (by omega), r 41 j (by omega), r 42 j (by omega)]
    exact h3 j hj
  · rw [eb_stA _ _ _ (by decide), eb_stA _ _ _ (by decide), eb_st]
  · rw [eb_stA _ _ _ (by decide), eb_st]
/-- the reference closes its line -/
theorem et_mClose {k x bb t : Nat} {s' v' : Nat → Int32} (hln : ln < 12) (hM : et_M c L m p) (h16 : m 272 16 = nI t) (h2 : ∀ i, i < t → m 273 (1380 + 2 * i) = s' i ∧ m 273 (1381 + 2 * i) = v' i) (h3 : ∀ j, j < 4 * ln → m 273 (1332 + j) = D j) (e0 : m 273 (1332 + 4 * ln) = nI k) (e1 : m 273 (1333 + 4 * ln) = nI x) (e2 : m 273 (1334 + 4 * ln) = nI bb) (hf : et_KF m0 m) : eb_W (f_X12_readLawLine_j141 (nI (1332 + 4 * ln)) m) (fun z => z.1 = 1 ∧ et_M c L z.2 p ∧ et_KN m0 z.2 (ln + 1) t s' v' (et_Dn D ln k x bb t)) := by
  unfold f_X12_readLawLine_j141
  rw [eb_bdR, h16, show nI (1332 + 4 * ln) + 3 = nI (1335 + 4 * ln) by show nI (1332 + 4 * ln) + nI 3 = _; rw [nI_add, show 1332 + 4 * ln + 3 = 1335 + 4 * ln by omega], eb_gN (by omega) (by decide), nI_clamp (by omega), eb_bdR]
  have r : ∀ i, i ≠ 1335 + 4 * ln → ea_st m 273 (1335 + 4 * ln) (nI t) 273 i = m 273 i := fun i q => eb_stI _ _ _ q
  refine eb_some ⟨rfl, et_M_st hM _ _, ?_, fun i hi => ?_, fun j hj => ?_, et_KF_st hf (by omega) _⟩
  · show ea_st m 273 (1335 + 4 * ln) (nI t) 272 16 = _
    rw [eb_stA _ _ _ (by decide)]; exact h16
  · show ea_st m 273 (1335 + 4 * ln) (nI t) 273 _ = _ ∧ ea_st m 273 (1335 + 4 * ln) (nI t) 273 _ = _
    rw [r _ (by omega), r _ (by omega)]; exact h2 i hi
  · show ea_st m 273 (1335 + 4 * ln) (nI t) 273 _ = _
    unfold et_Dn
    by_cases q3 : j = 4 * ln + 3
    · subst q3
      rw [if_neg (by omega), if_neg (by omega), if_neg (by omega), if_pos rfl, show 1332 + (4 * ln + 3) = 1335 + 4 * ln by omega, eb_st]
    · rw [r _ (by omega)]
      by_cases q0 : j = 4 * ln
      · rw [if_pos q0, q0]; exact e0
      · rw [if_neg q0]
        by_cases q1 : j = 4 * ln + 1
        · rw [if_pos q1, q1, show 1332 + (4 * ln + 1) = 1333 + 4 * ln by omega]; exact e1
        · rw [if_neg q1]
          by_cases q2 : j = 4 * ln + 2
          · rw [if_pos q2, q2, show 1332 + (4 * ln + 2) = 1334 + 4 * ln by omega]; exact e2
          · rw [if_neg q2, if_neg q3]
            exact h3 j (by omega)
theorem et_lline (hL : L ≤ 400) (hln : ln < 12) (hn : n ≤ p) (hp : p ≤ L) (hV : et_V ln n s D) : ∃ o : et_Ko, et_Kk L p (ln + 1) o ∧ (∀ m0 m, et_KS c L m0 m p ln n s v D → eb_W (f_X8_takesLine m) (et_KC c L m0 (ln + 1) o)) ∧ ∀ m0 m, et_ML c L m p → et_KN m0 m ln n s v D → eb_W (f_X12_readLawLine (nI ln) m) (et_KE c L m0 (ln + 1) o) := by
  have hsb := (et_sb_spec (c := c) hL hp).2.1
  have hp1 := (et_te_le (c := c) hL hp).2.1
  have hst : ∀ m1 : ea_M, ∀ x : Int32, f_X12_readLawLine_j66 (nI (1332 + 4 * ln)) (nI (1332 + 4 * ln)) x m1 = if 0 ≤ x then ea_cl (f_X12_number 0 9 (ea_st m1 273 (1332 + 4 * ln) x)) fun r17 m16 => ea_bd (ea_st m16 273 (1333 + 4 * ln) r17) fun m18 => if 0 ≤ r17 then ea_bd (m18 272 16) fun x20 => ea_bd (ea_st m18 273 (1334 + 4 * ln) x20) fun m21 => ea_bd (ea_st m21 272 13 0) fun m22 => ea_cl (f_X12_passes 64 m22) fun r24 m23 => if r24 = 0 then f_X12_readLawLine_j141 (nI (1332 + 4 * ln)) m23 else ea_cl (f_X12_readCond (f_X12_readAtom 8) m23) fun r30 m29 => if r30 = 0 then some (0, m29) else f_X12_readLawLine_j141 (nI (1332 + 4 * ln)) m29 else some (0, m18) else some (0, ea_st m1 273 (1332 + 4 * ln) x) := fun m1 x => by
    unfold f_X12_readLawLine_j66
    rw [eb_gN (by omega) (by decide), eb_bdR, eb_gN (by omega) (by decide), nI_clamp (by omega), eb_bdR, eb_st, show nI (1332 + 4 * ln) + 1 = nI (1333 + 4 * ln) by rw [nI_1, show 1332 + 4 * ln + 1 = 1333 + 4 * ln by omega], show nI (1332 + 4 * ln) + 2 = nI (1334 + 4 * ln) by show nI (1332 + 4 * ln) + nI 2 = _; rw [nI_add, show 1332 + 4 * ln + 2 = 1334 + 4 * ln by omega]]
    refine congrArg (fun y => if 0 ≤ x then ea_cl (f_X12_number 0 9 (ea_st m1 273 (1332 + 4 * ln) x)) y else some (0, ea_st m1 273 (1332 + 4 * ln) x)) (funext fun r17 => funext fun m16 => ?_)
    rw [eb_gN (by omega) (by decide), nI_clamp (by omega), eb_bdR, eb_bdR, eb_gN (by omega) (by decide), eb_bdR, eb_st]
    refine congrArg (fun y => if 0 ≤ r17 then y else some (0, ea_st m16 273 (1333 + 4 * ln) r17)) ?_
    rw [eb_bdR, eb_bdR, eb_gN (by omega) (by decide), nI_clamp (by omega), eb_bdR]
    rfl
  cases hlk : et_lk c L p with
  | none =>
    refine ⟨.inl (et_sb c L p), hsb, fun m0 m hS => ?_, fun m0 m hM hN => ?_⟩
    · unfold f_X8_takesLine
      rw [et_lineKind hL hS.1, eb_clR, hlk]
      dsimp only
      rw [if_pos rfl, et_refuse hS.1, eb_clR, eb_gz0]
      exact eb_some ⟨rfl, eb_fr_st hS.2.2.2.2.2 (Or.inl rfl) _ _, eb_st m 49 6 (nI (et_sb c L p))⟩
    · rw [et_lawLine hL hM, hlk]
      dsimp only
      rw [hst, if_neg (by decide)]
      refine eb_some ⟨rfl, et_KF_st hN.2.2.2 (by omega) _, ?_⟩
      dsimp only
      rw [eb_stA _ _ _ (by decide)]; exact hM.2.1
  | some k =>
    obtain ⟨hk3, hp4, j, hj⟩ := et_lk_some hL hp hlk
    obtain ⟨p1, ep1⟩ : ∃ p1, p1 = et_te c L p := ⟨_, rfl⟩
    rw [← ep1] at hp1 hp4
    have hp2 := (et_te_le (c := c) hL hp1).2.1
    have cls : ∀ (o : et_Ko) (m0 m : ea_M), et_KS c L m0 m p ln n s v D → (∀ m1, et_KS c L m0 m1 p1 ln n s v D → eb_W (ea_cl (f_X9_takesNumber 49 0 9 m1) fun r8 m7 => if r8 = 0 then some (0, m7) else ea_bd (m7 49 5) fun x9 => ea_cl (f_X7_openLine 38 (nI k) x9 m7) fun r11 m10 => ea_cl (f_X9_sees 49 22 m10) fun r13 m12 => if r13 = 0 then f_X8_takesLine_j84 m12 else ea_cl (f_X9_step 49 m12) fun r18 m17 => ea_cl (f_X8_takesEither (f_X8_takesAtom 8) 0 m17) fun r20 m19 => if r20 = 0 then some (0, m19) else f_X8_takesLine_j84 m19) (et_KC c L m0 (ln + 1) o)) → eb_W (f_X8_takesLine m) (et_KC c L m0 (ln + 1) o) := fun o m0 m hS hK => by
      unfold f_X8_takesLine
      rw [et_lineKind hL hS.1, eb_clR, hlk]
      dsimp only
      rw [if_neg (et_nI_ne (by omega))]
      refine et_cStep hL (by decide) hS.1 fun r m1 k1 k2 _ => ?_
      exact hK m1 (by rw [ep1]; exact et_KS_fa hS k1 k2)
    have mdl : ∀ (o : et_Ko) (m0 m : ea_M), et_ML c L m p → et_KN m0 m ln n s v D → (∀ m1, et_M c L m1 p1 → et_KN m0 m1 ln n s v D → m1 273 (1332 + 4 * ln) = nI k → eb_W (ea_cl (f_X12_number 0 9 m1) fun r17 m16 => ea_bd (ea_st m16 273 (1333 + 4 * ln) r17) fun m18 => if 0 ≤ r17 then ea_bd (m18 272 16) fun x20 => ea_bd (ea_st m18 273 (1334 + 4 * ln) x20) fun m21 => ea_bd (ea_st m21 272 13 0) fun m22 => ea_cl (f_X12_passes 64 m22) fun r24 m23 => if r24 = 0 then f_X12_readLawLine_j141 (nI (1332 + 4 * ln)) m23 else ea_cl (f_X12_readCond (f_X12_readAtom 8) m23) fun r30 m29 => if r30 = 0 then some (0, m29) else f_X12_readLawLine_j141 (nI (1332 + 4 * ln)) m29 else some (0, m18)) (et_KE c L m0 (ln + 1) o)) → eb_W (f_X12_readLawLine (nI ln) m) (et_KE c L m0 (ln + 1) o) := fun o m0 m hM hN hK => by
      rw [et_lawLine hL hM, hlk]
      dsimp only
      rw [hst, if_pos (nI_pos' (by omega))]
      refine hK _ (et_M_st (by rw [ep1]; exact et_ML_w hL hM hj) _ _) ⟨?_, fun i hi => ?_, fun i hi => ?_, et_KF_st hN.2.2.2 (by omega) _⟩ (eb_st _ _ _ _)
      · rw [eb_stA _ _ _ (by decide)]; exact hN.1
      · rw [eb_stI _ _ _ (by omega), eb_stI _ _ _ (by omega)]; exact hN.2.1 i hi
      · rw [eb_stI _ _ _ (by omega)]; exact hN.2.2.1 i hi
    cases hnm : et_num c L p1 0 9 with
    | none =>
      refine ⟨.inl (et_sb c L p1), (et_sb_spec hL hp1).2.1, fun m0 m hS => cls _ m0 m hS fun m1 hS1 => ?_, fun m0 m hM hN => mdl _ m0 m hM hN fun m1 hM1 hN1 e0 => ?_⟩
      · refine et_cNum hL (by decide) hS1.1 (fun _ m3 k1 k2 => ?_) (fun x hx => by rw [hnm] at hx; cases hx)
        rw [if_pos rfl]
        exact eb_some ⟨rfl, et_Kf_fa hS1.2.2.2.2.2 k1, k2⟩
      · refine et_mNum hL hM1 (fun _ m3 k1 k2 => eb_bd ?_) (fun x hx => by rw [hnm] at hx; cases hx)
        rw [if_neg (by decide)]
        refine eb_some ⟨rfl, et_KF_st (et_KF_F hN1.2.2.2 k1) (by omega) _, ?_⟩
        dsimp only
        rw [eb_stA _ _ _ (by decide)]; exact k2
    | some x =>
    obtain ⟨x9, _, _, hlt2⟩ := et_num_some hL hp1 hnm
    obtain ⟨p2, ep2⟩ : ∃ p2, p2 = et_te c L p1 := ⟨_, rfl⟩
    rw [← ep2] at hp2 hlt2
    have hp3 := (et_te_le (c := c) hL hp2).2.1
    have cls2 : ∀ (o : et_Ko) (m0 m : ea_M), et_KS c L m0 m p ln n s v D → (∀ m1, et_KS c L m0 m1 p2 ln n s v D → m1 39 ln = nI k → m1 40 ln = nI x → m1 41 ln = nI n → eb_W (if eb_b2 (et_w c L p2 22) = 0 then f_X8_takesLine_j84 m1 else ea_cl (f_X9_step 49 m1) fun r18 m17 => ea_cl (f_X8_takesEither (f_X8_takesAtom 8) 0 m17) fun r20 m19 => if r20 = 0 then some (0, m19) else f_X8_takesLine_j84 m19) (et_KC c L m0 (ln + 1) o)) → eb_W (f_X8_takesLine m) (et_KC c L m0 (ln + 1) o) := fun o m0 m hS hK => by
      refine cls o m0 m hS fun m1 hS1 => ?_
      refine et_cNum hL (by decide) hS1.1 (fun h => by rw [hnm] at h; cases h) (fun x' hx' m3 k1 k2 k3 => ?_)
      rw [hnm] at hx'
      obtain rfl := Option.some.inj hx'
      rw [← ep2] at k2
      rw [if_neg (by decide), eb_bdR, k3]
      obtain ⟨m4, e4, S4, f39, f40, f41⟩ := et_openLine (k := k) (x := x) hln (et_KS_fa hS1 k1 k2)
      rw [e4, eb_clR, et_sees hL (by decide) S4.1, eb_clR]
      exact hK m4 S4 f39 f40 f41
    have mdl2 : ∀ (o : et_Ko) (m0 m : ea_M), et_ML c L m p → et_KN m0 m ln n s v D → (∀ m1, et_M c L m1 p2 → et_KN m0 m1 ln n s v D → m1 272 13 = nI 0 → m1 273 (1332 + 4 * ln) = nI k → m1 273 (1333 + 4 * ln) = nI x → m1 273 (1334 + 4 * ln) = nI n → eb_W (ea_cl (f_X12_passes 64 m1) fun r24 m23 => if r24 = 0 then f_X12_readLawLine_j141 (nI (1332 + 4 * ln)) m23 else ea_cl (f_X12_readCond (f_X12_readAtom 8) m23) fun r30 m29 => if r30 = 0 then some (0, m29) else f_X12_readLawLine_j141 (nI (1332 + 4 * ln)) m29) (et_KE c L m0 (ln + 1) o)) → eb_W (f_X12_readLawLine (nI ln) m) (et_KE c L m0 (ln + 1) o) := fun o m0 m hM hN hK => by
      refine mdl o m0 m hM hN fun m1 hM1 hN1 e0 => ?_
      refine et_mNum hL hM1 (fun h => by rw [hnm] at h; cases h) (fun x' hx' m3 k1 k2 _ => ?_)
      rw [hnm] at hx'
      obtain rfl := Option.some.inj hx'
      rw [← ep2] at k2
      have N3 := et_KN_F hN1 k1
      rw [eb_bdR, if_pos (et_pos x9), eb_bdR, eb_stA _ _ _ (by decide), N3.1, eb_bdR, eb_bdR]
      obtain ⟨m22, e22⟩ : ∃ m22, m22 = ea_st (ea_st (ea_st m3 273 (1333 + 4 * ln) (nI x)) 273 (1334 + 4 * ln) (nI n)) 272 13 0 := ⟨_, rfl⟩
      rw [← e22]
      have r : ∀ a i, ¬ (a = 272 ∧ i = 13) → ¬ (a = 273 ∧ (i = 1333 + 4 * ln ∨ i = 1334 + 4 * ln)) → m22 a i = m3 a i := fun a i q1 q2 => by rw [e22, eb_sts, if_neg q1, eb_sts, if_neg (by omega), eb_sts, if_neg (by omega)]
      have r13 : m22 272 13 = nI 0 := by rw [e22, eb_st]; rfl
      have r3 : m22 273 (1333 + 4 * ln) = nI x := by rw [e22, eb_stA _ _ _ (by decide), eb_stI _ _ _ (by omega), eb_st]
      have r4 : m22 273 (1334 + 4 * ln) = nI n := by rw [e22, eb_stA _ _ _ (by decide), eb_st]
      clear e22
      refine hK m22 (et_M_cg k2 (r 272 10 (by omega) (by omega)) (r 272 11 (by omega) (by omega)) (funext fun i => r 278 i (by omega) (by omega))) ⟨(r 272 16 (by omega) (by omega)).trans N3.1, fun i hi => ?_, fun j hj => ?_, fun a i q1 q2 => ?_⟩ r13 ?_ r3 r4
      · rw [r 273 _ (by omega) (by omega), r 273 _ (by omega) (by omega)]; exact N3.2.1 i hi
      · rw [r 273 _ (by omega) (by omega)]; exact N3.2.2.1 j hj
      · rw [r a i (by omega) (by omega)]; exact N3.2.2.2 a i q1 q2
      · rw [r 273 _ (by omega) (by omega), et_F_w k1]; exact e0
    cases hif : et_w c L p2 22 with
    | false =>
      refine ⟨.inr (p2, n, s, v, et_Dn D ln k x n n), ⟨by dsimp only; omega, hp2, by dsimp only; omega, et_V_more hV hk3 (Nat.le_refl _) (fun _ _ => rfl) (Or.inl rfl)⟩, fun m0 m hS => cls2 _ m0 m hS fun m1 hS1 f39 f40 f41 => ?_, fun m0 m hM hN => mdl2 _ m0 m hM hN fun m1 hM1 hN1 d0 e0 e1 e2 => ?_⟩
      · rw [hif, show eb_b2 false = 0 from rfl, if_pos rfl]
        obtain ⟨hS, h0, h1, h2, h3, hf⟩ := hS1
        exact et_closeLine hln hS h0 h1 h2 h3 f39 f40 f41 hf
      · refine et_mPassB (j := 64) (j' := 22) hL (by decide) (by decide +kernel) rfl hM1 (fun _ m3 k1 k2 _ => ?_) (fun h => by rw [hif] at h; cases h)
        rw [if_pos rfl]
        have N3 := et_KN_F hN1 k1
        exact et_mClose hln k2 N3.1 N3.2.1 N3.2.2.1 (by rw [et_F_w k1]; exact e0) (by rw [et_F_w k1]; exact e1) (by rw [et_F_w k1]; exact e2) N3.2.2.2
    | true =>
      have hlt3 := et_w_lt hL hp2 hif
      have H : et_H L n (et_te c L p2) n s [] := ⟨Nat.le_refl _, by omega, hp3, by rw [Nat.sub_self]; rfl⟩
      obtain ⟨o1, oo1, oc1, om1⟩ := et_condJ (c := c) (d := 0) (v := v) (A := f_X8_takesAtom 8) (A' := f_X12_readAtom 8) (K := 2) hL (fun p n' s v T hH hT => et_atom hL 8 0 n p n' s v T (by decide) (by decide) hH (by omega)) (by decide) H
      have cls3 : ∀ (o : et_Ko) (m0 m : ea_M), et_KS c L m0 m p ln n s v D → (∀ mb m1, et_KS c L m0 mb p2 ln n s v D → mb 39 ln = nI k → mb 40 ln = nI x → mb 41 ln = nI n → et_LS c L mb m1 (et_te c L p2) n s v → eb_W (ea_cl (f_X8_takesEither (f_X8_takesAtom 8) (nI 0) m1) fun r20 m19 => if r20 = 0 then some (0, m19) else f_X8_takesLine_j84 m19) (et_KC c L m0 (ln + 1) o)) → eb_W (f_X8_takesLine m) (et_KC c L m0 (ln + 1) o) := fun o m0 m hS hK => by
        refine cls2 o m0 m hS fun m1 hS1 f39 f40 f41 => ?_
        rw [hif, show eb_b2 true = 1 from rfl, if_neg (by decide)]
        refine et_cStep hL (by decide) hS1.1 fun r m3 k1 k2 _ => ?_
        obtain ⟨hS, h0, h1, h2, h3, hf⟩ := id hS1
        exact hK m1 m3 hS1 f39 f40 f41 (et_LS_fa (m := m1) ⟨hS, h1, h2, et_LF_refl m1⟩ k1 k2)
      have mdl3 : ∀ (o : et_Ko) (m0 m : ea_M), et_ML c L m p → et_KN m0 m ln n s v D → (∀ mb m1, et_KN m0 mb ln n s v D → mb 273 (1332 + 4 * ln) = nI k → mb 273 (1333 + 4 * ln) = nI x → mb 273 (1334 + 4 * ln) = nI n → et_LM c L mb m1 (et_te c L p2) n s v 0 → eb_W (ea_cl (f_X12_readCond (f_X12_readAtom 8) m1) fun r30 m29 => if r30 = 0 then some (0, m29) else f_X12_readLawLine_j141 (nI (1332 + 4 * ln)) m29) (et_KE c L m0 (ln + 1) o)) → eb_W (f_X12_readLawLine (nI ln) m) (et_KE c L m0 (ln + 1) o) := fun o m0 m hM hN hK => by
        refine mdl2 o m0 m hM hN fun m1 hM1 hN1 d0 e0 e1 e2 => ?_
        refine et_mPassB (j := 64) (j' := 22) hL (by decide) (by decide +kernel) rfl hM1 (fun h => by rw [hif] at h; cases h) (fun _ m3 k1 k2 _ => ?_)
        rw [if_neg (by decide)]
        exact hK m1 m3 hN1 e0 e1 e2 (et_LM_F (m := m1) ⟨hM1, hN1.1, d0, hN1.2.1, et_DF_refl m1⟩ k1 k2)
      cases o1 with
      | inl g =>
        refine ⟨.inl g, oo1, fun m0 m hS => cls3 _ m0 m hS fun mb m1 hb f39 f40 f41 hS1 => ?_, fun m0 m hM hN => mdl3 _ m0 m hM hN fun mb m1 hb e0 e1 e2 hM1 => ?_⟩
        · refine eb_cl (oc1 mb m1 hS1) fun r m2 h2 => ?_
          obtain ⟨e2, h2⟩ := h2
          dsimp only at e2 h2
          rw [e2, if_pos rfl]
          exact eb_some ⟨rfl, et_Kf_LF hb.2.2.2.2.2 h2.1, h2.2.1⟩
        · refine eb_cl (om1 mb m1 hM1) fun r m2 h2 => ?_
          obtain ⟨e2, h2, h12⟩ := h2
          dsimp only at e2 h2 h12
          rw [e2, if_pos rfl]
          exact eb_some ⟨rfl, et_KF_DF hb.2.2.2 h2, h12⟩
      | inr q =>
        obtain ⟨a1, a2, a3, a4, a5, a6⟩ := oo1
        refine ⟨.inr (q.1, q.2.1, q.2.2.1, q.2.2.2, et_Dn D ln k x n q.2.1), ⟨by dsimp only; omega, a2, by dsimp only; omega, et_V_more hV hk3 a3 (fun i hi => (a5 i hi).1) (Or.inr a6)⟩, fun m0 m hS => cls3 _ m0 m hS fun mb m1 hb f39 f40 f41 hS1 => ?_, fun m0 m hM hN => mdl3 _ m0 m hM hN fun mb m1 hb e0 e1 e2 hM1 => ?_⟩
        · refine eb_cl (oc1 mb m1 hS1) fun r m2 h2 => ?_
          obtain ⟨e2, hS2, g1, g2, gF⟩ := h2
          dsimp only at e2 hS2 g1 g2 gF
          rw [e2, if_neg (by decide)]
          obtain ⟨_, h0, h1, h2, h3, hf⟩ := hb
          refine et_closeLine hln hS2 ?_ g1 g2 (fun i hi => ?_) ?_ ?_ ?_ (et_Kf_LF hf gF)
          · rw [gF 38 0 (by omega) (by omega) (by omega)]; exact h0
          · rw [gF 39 i (by omega) (by omega) (by omega), gF 40 i (by omega) (by omega) (by omega), gF 41 i (by omega) (by omega) (by omega), gF 42 i (by omega) (by omega) (by omega)]
            exact h3 i hi
          · rw [gF 39 ln (by omega) (by omega) (by omega)]; exact f39
          · rw [gF 40 ln (by omega) (by omega) (by omega)]; exact f40
          · rw [gF 41 ln (by omega) (by omega) (by omega)]; exact f41
        · refine eb_cl (om1 mb m1 hM1) fun r m2 h2 => ?_
          obtain ⟨e3, hM2, g16, _, g2, gD⟩ := h2
          dsimp only at e3 hM2 g16 g2 gD
          rw [e3, if_neg (by decide)]
          obtain ⟨h16, hs, hd, hf⟩ := hb
          refine et_mClose hln hM2 g16 g2 (fun j hj => ?_) ?_ ?_ ?_ (et_KF_DF hf gD)
          · rw [gD 273 _ (by omega) (by omega)]; exact hd j hj
          · rw [gD 273 _ (by omega) (by omega)]; exact e0
          · rw [gD 273 _ (by omega) (by omega)]; exact e1
          · rw [gD 273 _ (by omega) (by omega)]; exact e2
end LLINES
