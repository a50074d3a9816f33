section RICH
variable {m : ea_M}
theorem eb_S_bd {f : Nat → Int32} {c : Nat} : ∀ {n : Nat}, (∀ i, i < n → eb_rg (f i) c) → eb_rg (eb_S f n) (c * n)
  | 0, _ => ⟨0, by omega, rfl⟩
  | n + 1, h => by
    obtain ⟨a, ha, ea⟩ := eb_S_bd (n := n) fun i hi => h i (by omega)
    obtain ⟨b, hb, eb⟩ := h n (by omega)
    refine ⟨a + b, by rw [Nat.mul_add]; omega, ?_⟩
    show eb_S f n + f n = _
    rw [ea, eb, nI_add]
/-- the sum of counsel c's stocks -/
def eb_all (w : Nat → Int32) (c : Nat) : Int32 := eb_S (fun b => w (50 + 6 * c + b)) (eb_b w)
/-- the richest of the first i -/
def eb_am (w : Nat → Int32) : Nat → Nat
  | 0 => 0
  | i + 1 => if i = 0 then 0 else if eb_all w i ≤ eb_all w (eb_am w i) then eb_am w i else i
theorem eb_am_lt (w : Nat → Int32) : ∀ i, 0 < i → eb_am w i < i
  | 0, h => absurd h (by decide)
  | i + 1, _ => by
    show (if i = 0 then 0 else if eb_all w i ≤ eb_all w (eb_am w i) then eb_am w i else i) < i + 1
    by_cases h1 : i = 0
    · rw [if_pos h1]; omega
    · have := eb_am_lt w i (by omega)
      rw [if_neg h1]
      by_cases h2 : eb_all w i ≤ eb_all w (eb_am w i)
      · rw [if_pos h2]; omega
      · rw [if_neg h2]; omega
theorem eb_allB (h : eb_I m) {c : Nat} (hc : c < 4) : eb_rg (eb_all (m 273) c) 594 := by
  have h6 : eb_b (m 273) ≤ 6 := h.1.1.2.1.1.2
  obtain ⟨j, hj, e⟩ := eb_S_bd (f := fun b => m 273 (50 + 6 * c + b)) (c := 99) (n := eb_b (m 273)) (fun i hi => (h.1.1.2.2.2.2.1 c i hc (by omega)).2.1)
  exact ⟨j, by omega, e⟩
theorem eb_allM (h : eb_I m) {c : Nat} (hc : c < 4) : f_X12_allOf (nI c) m = some (eb_all (m 273) c, m) := by
  obtain ⟨n, hn, e1, e2, e3⟩ := eb_IB h
  unfold f_X12_allOf eb_all
  rw [e3]
  refine eb_loopB n (fun i => (eb_S (fun b => m 273 (50 + 6 * c + b)) i, nI i, m)) (eb_S (fun b => m 273 (50 + 6 * c + b)) n, m) rfl (fun i hi => ?_) ?_ (by unfold ea_fuel; omega) rfl
  · simp only [f_X12_allOf_s4, eb_birds, eb_clR, e1, if_neg (nI_ge hi (show n < 2 ^ 31 by omega)), eb_stockOf (show 50 + 6 * c + i < 2180 by omega), eb_bdR, nI_1]
    rfl
  · simp only [f_X12_allOf_s4, eb_birds, eb_clR, e1, if_pos (nI_le (Nat.le_refl n) (show n < 2 ^ 31 by omega))]
theorem eb_allA (h : eb_I m) {c : Nat} (hc : c < 4) (x y : Int32) : ea_loop (f_X11_rich_s26 (x, y, nI c, m)) ea_fuel (0, 0, m) = some (eb_all (m 273) c, m) := by
  obtain ⟨n, hn, e1, e2, e3⟩ := eb_IB h
  unfold eb_all
  rw [e3]
  refine eb_loopF n (fun i => (eb_S (fun b => m 273 (50 + 6 * c + b)) i, nI i, m)) _ rfl (fun i hi => ?_) ?_ (by unfold ea_fuel; omega)
  · have z : m (8 + 1) (6 * c + i) = m 273 (50 + 6 * c + i) := (h.1.1.2.2.2.2.1 c i hc (by omega)).1
    simp only [f_X11_rich_s26, eb_bdR, e2, if_neg (nI_ge hi (show n < 2 ^ 31 by omega)), eb_held 8 (show 6 * c + i < 24 by omega), eb_clR, nI_1, z]
    rfl
  · simp only [f_X11_rich_s26, eb_bdR, e2, if_pos (nI_le (Nat.le_refl n) (show n < 2 ^ 31 by omega))]
def eb_ri (w : Nat → Int32) (i : Nat) : Int32 := if i = 0 then -1 else nI (eb_am w i)
theorem eb_richA (h : eb_I m) : f_X11_rich m = some (eb_ri (m 273) (eb_nc (m 273)), m) := by
  obtain ⟨n, hn, e1, e2, e3⟩ := eb_IN h
  unfold f_X11_rich
  rw [e3]
  refine eb_loopB n (fun i => ((if i = 0 then -1 else eb_all (m 273) (eb_am (m 273) i)), eb_ri (m 273) i, nI i, m)) (eb_ri (m 273) n, m) rfl (fun i hi => ?_) ?_ (by unfold ea_fuel; omega) rfl
  · simp only [f_X11_rich_s6, f_X11_rich_j73, eb_bdR, e2, if_neg (nI_ge hi (show n < 2 ^ 31 by omega)), eb_allA h (show i < 4 by omega), eb_obR, nI_1]
    unfold eb_ri
    rw [if_neg (show ¬ i + 1 = 0 by omega), if_neg (show ¬ i + 1 = 0 by omega)]
    show _ = some (Sum.inl (eb_all (m 273) (if i = 0 then 0 else if eb_all (m 273) i ≤ eb_all (m 273) (eb_am (m 273) i) then eb_am (m 273) i else i), nI (if i = 0 then 0 else if eb_all (m 273) i ≤ eb_all (m 273) (eb_am (m 273) i) then eb_am (m 273) i else i), nI (i + 1), m))
    by_cases h0 : i = 0
    · subst h0
      obtain ⟨j, hj, e⟩ := eb_allB h (c := 0) (by omega)
      have g : ¬ eb_all (m 273) 0 ≤ -1 := by
        rw [e, eb_le_iff, nI_toInt (by omega), show (-1 : Int32).toInt = -1 by decide]
        omega
      simp only [if_true, if_neg g]
    · simp only [if_neg h0]
      by_cases h1 : eb_all (m 273) i ≤ eb_all (m 273) (eb_am (m 273) i)
      · simp only [if_pos h1]
      · simp only [if_neg h1]
  · simp only [f_X11_rich_s6, eb_bdR, e2, if_pos (nI_le (Nat.le_refl n) (show n < 2 ^ 31 by omega))]
theorem eb_richM (h : eb_I m) : (ea_loop f_X12_rich_s9 ea_fuel ((-1), 0, m)) = some (eb_ri (m 273) (eb_nc (m 273)), m) := by
  obtain ⟨n, hn, e1, e2, e3⟩ := eb_IN h
  rw [e3]
  refine eb_loopF n (fun i => (eb_ri (m 273) i, nI i, m)) _ rfl (fun i hi => ?_) ?_ (by unfold ea_fuel; omega)
  · simp only [f_X12_rich_s9, f_X12_rich_j34, f_X12_rich_j36, eb_counsel, eb_clR, e1, if_neg (nI_ge hi (show n < 2 ^ 31 by omega)), nI_1]
    unfold eb_ri
    rw [if_neg (show ¬ i + 1 = 0 by omega)]
    show _ = some (Sum.inl (nI (if i = 0 then 0 else if eb_all (m 273) i ≤ eb_all (m 273) (eb_am (m 273) i) then eb_am (m 273) i else i), nI (i + 1), m))
    by_cases h0 : i = 0
    · subst h0
      simp only [if_true, if_pos (show (-1 : Int32) < 0 by decide)]
    · have := eb_am_lt (m 273) i (by omega)
      simp only [if_neg h0, if_neg (nI_pos (show eb_am (m 273) i < 2 ^ 31 by omega)), eb_allM h (show i < 4 by omega), eb_allM h (show eb_am (m 273) i < 4 by omega), eb_clR]
      by_cases h1 : eb_all (m 273) i ≤ eb_all (m 273) (eb_am (m 273) i)
      · simp only [if_pos h1]
      · simp only [if_neg h1]
  · simp only [f_X12_rich_s9, eb_counsel, eb_clR, e1, if_pos (nI_le (Nat.le_refl n) (show n < 2 ^ 31 by omega))]
theorem eb_p_rich (h : eb_I m) : eb_P2 eb_I (f_X11_rich m) f_X12_rich := by
  refine eb_P2q h (eb_richA h) (m2 := ea_st m 272 0 0) ?_ (eb_E0 m)
  unfold f_X12_rich
  rw [eb_bdR, eb_richM (eb_I_cg (eb_E0 m) h)]
  rfl
/-! cover -/
def eb_bc (p : Int32) : Int32 := ((f_J6_bitCount_0f7a4 p (fun _ _ => 0)).getD (0, fun _ _ => 0)).1
theorem eb_bcE (p : Int32) (m : ea_M) : f_J6_bitCount_0f7a4 p m = some (eb_bc p, m) := rfl
theorem eb_bc7 : ∀ s, s < 64 → eb_bc (nI s) < 7 := by decide +kernel
theorem eb_shl1 : ∀ n, n < 31 → (1 <<< (nI n &&& 31) : Int32) = nI (2 ^ n) := by decide +kernel
/-- set s covers the first k cases -/
def eb_co (w : Nat → Int32) (s : Int32) : Nat → Bool
  | 0 => true
  | k + 1 => eb_co w s k && !(decide (w (77 + 4 * k) = 0) && decide (w (76 + 4 * k) &&& s = 0))
theorem eb_co0 (w : Nat → Int32) (s : Int32) {n : Nat} (h : eb_co w s n = false) : ∀ d, eb_co w s (n + d) = false
  | 0 => h
  | d + 1 => by
    show (eb_co w s (n + d) && _) = false
    rw [eb_co0 w s h d]
    rfl
def eb_b2 (b : Bool) : Int32 := if b then 1 else 0
theorem eb_coverA (h : eb_I m) (s : Int32) : f_X1_isCoveredBy 8 s m = some (eb_b2 (eb_co (m 273) s (eb_k (m 273))), m) := by
  obtain ⟨n, hn, e1, e2, e3⟩ := eb_IK h
  have key : eb_W (ea_loop (f_X1_isCoveredBy_s2 8 s) ea_fuel (0, m)) (fun r => (r = Sum.inl (0, m) ∧ eb_co (m 273) s n = false) ∨ (r = Sum.inr m ∧ eb_co (m 273) s n = true)) := by
    refine eb_for n (fun i t => t = (nI i, m) ∧ eb_co (m 273) s i = true) ?_ ?_ (by unfold ea_fuel; omega) ⟨rfl, rfl⟩
    · rintro i t hi ⟨rfl, hc⟩
      obtain ⟨a1, a2, a3, a4, _⟩ := h.1.1.2.2.2.2.2.1 i (by rw [e3]; exact hi)
      have a3 : m (8 + 4) i = m 273 (76 + 4 * i) := a3
      have a4 : m (8 + 5) i = m 273 (77 + 4 * i) := a4
      have nx : eb_co (m 273) s (i + 1) = (eb_co (m 273) s i && !(decide (m 273 (77 + 4 * i) = 0) && decide (m 273 (76 + 4 * i) &&& s = 0))) := rfl
      rw [hc, Bool.true_and] at nx
      unfold f_X1_isCoveredBy_s2
      refine eb_bdV e2 (eb_else (nI_ge hi (by omega)) (eb_g i (by omega) (eb_bdV (w := m 273 (77 + 4 * i)) (by show m (8 + 5) (Int32.toNatClampNeg (nI i)) = _; rw [nI_clamp (by omega), a4]) (eb_ite (fun z => ?_) fun z => ?_))))
      · refine eb_g i (by omega) (eb_bdV (w := m 273 (76 + 4 * i)) (by show m (8 + 4) (Int32.toNatClampNeg (nI i)) = _; rw [nI_clamp (by omega), a3]) (eb_ite (fun z2 => eb_some ?_) fun z2 => eb_some ?_))
        · refine Or.inl ⟨rfl, ?_⟩
          rw [decide_eq_true z, decide_eq_true z2] at nx
          have := eb_co0 (m 273) s (n := i + 1) nx (n - (i + 1))
          rw [show i + 1 + (n - (i + 1)) = n by omega] at this
          exact this
        · refine ⟨by rw [← nI_1], ?_⟩
          rw [decide_eq_false z2, Bool.and_false] at nx
          exact nx
      · refine eb_some ⟨by rw [← nI_1], ?_⟩
        rw [decide_eq_false z, Bool.false_and] at nx
        exact nx
    · rintro t ⟨rfl, hc⟩
      unfold f_X1_isCoveredBy_s2
      exact eb_bdV e2 (eb_if (nI_le (Nat.le_refl n) (by omega)) (eb_some (Or.inr ⟨rfl, hc⟩)))
  obtain ⟨r, e, hr⟩ := key
  unfold f_X1_isCoveredBy
  rw [e, e3]
  rcases hr with ⟨rfl, hc⟩ | ⟨rfl, hc⟩
  · rw [hc]; rfl
  · rw [hc]; rfl
theorem eb_coverM (h : eb_I m) (s : Int32) : f_X12_covers s m = some (eb_b2 (eb_co (m 273) s (eb_k (m 273))), m) := by
  obtain ⟨n, hn, e1, e2, e3⟩ := eb_IK h
  have key : eb_W (ea_loop (f_X12_covers_s2 s) ea_fuel (0, m)) (fun r => (r = Sum.inl (0, m) ∧ eb_co (m 273) s n = false) ∨ (r = Sum.inr m ∧ eb_co (m 273) s n = true)) := by
    refine eb_for n (fun i t => t = (nI i, m) ∧ eb_co (m 273) s i = true) ?_ ?_ (by unfold ea_fuel; omega) ⟨rfl, rfl⟩
    · rintro i t hi ⟨rfl, hc⟩
      have nx : eb_co (m 273) s (i + 1) = (eb_co (m 273) s i && !(decide (m 273 (77 + 4 * i) = 0) && decide (m 273 (76 + 4 * i) &&& s = 0))) := rfl
      rw [hc, Bool.true_and] at nx
      have t2 : f_X12_ofCase (nI i) 2 m = some (m 273 (76 + 4 * i), m) := by
        rw [show (2 : Int32) = nI 2 from rfl, eb_ofCase (by omega), show 74 + 4 * i + 2 = 76 + 4 * i by omega]
      unfold f_X12_covers_s2
      dsimp only
      rw [eb_cases, eb_clR, e1, if_neg (nI_ge hi (by omega)), eb_isOpen (by omega), eb_clR]
      by_cases z : m 273 (77 + 4 * i) = 0
      · rw [if_pos z, if_neg eb_ne10, t2, eb_clR]
        refine eb_ite (fun z2 => eb_some ?_) fun z2 => eb_some ?_
        · refine Or.inl ⟨rfl, ?_⟩
          rw [decide_eq_true z, decide_eq_true z2] at nx
          have := eb_co0 (m 273) s (n := i + 1) nx (n - (i + 1))
          rw [show i + 1 + (n - (i + 1)) = n by omega] at this
          exact this
        · refine ⟨by rw [← nI_1], ?_⟩
          rw [decide_eq_false z2, Bool.and_false] at nx
          exact nx
      · rw [if_neg z, if_pos rfl]
        refine eb_some ⟨by rw [← nI_1], ?_⟩
        rw [decide_eq_false z, Bool.false_and] at nx
        exact nx
    · rintro t ⟨rfl, hc⟩
      unfold f_X12_covers_s2
      dsimp only
      rw [eb_cases, eb_clR, e1, if_pos (nI_le (Nat.le_refl n) (by omega))]
      exact eb_some (Or.inr ⟨rfl, hc⟩)
  obtain ⟨r, e, hr⟩ := key
  unfold f_X12_covers
  rw [e, e3]
  rcases hr with ⟨rfl, hc⟩ | ⟨rfl, hc⟩
  · rw [hc]; rfl
  · rw [hc]; rfl
/-- the best cover among the first i sets -/
def eb_cv (w : Nat → Int32) : Nat → Option Nat
  | 0 => none
  | i + 1 => if eb_co w (nI i) (eb_k w) = true then (match eb_cv w i with | none => some i | some b => if eb_bc (nI b) ≤ eb_bc (nI i) then some b else some i) else eb_cv w i
theorem eb_cv_lt (w : Nat → Int32) : ∀ i b, eb_cv w i = some b → b < i
  | 0, b, h => by cases h
  | i + 1, b, h => by
    have h : (if eb_co w (nI i) (eb_k w) = true then (match eb_cv w i with | none => some i | some b => if eb_bc (nI b) ≤ eb_bc (nI i) then some b else some i) else eb_cv w i) = some b := h
    by_cases q : eb_co w (nI i) (eb_k w) = true
    · rw [if_pos q] at h
      cases e : eb_cv w i with
      | none =>
        rw [e] at h
        cases h
        omega
      | some c =>
        rw [e] at h
        have := eb_cv_lt w i c e
        dsimp only at h
        by_cases q2 : eb_bc (nI c) ≤ eb_bc (nI i)
        · rw [if_pos q2] at h
          cases h
          omega
        · rw [if_neg q2] at h
          cases h
          omega
    · rw [if_neg q] at h
      have := eb_cv_lt w i b h
      omega
def eb_c1 (o : Option Nat) : Int32 := match o with | none => 7 | some b => eb_bc (nI b)
def eb_c2 (o : Option Nat) : Int32 := match o with | none => 0 | some b => nI b
def eb_c3 (o : Option Nat) : Int32 := match o with | none => -1 | some b => nI b
theorem eb_p_cover (h : eb_I m) : eb_P2 eb_I (f_X11_cover m) f_X12_cover := by
  obtain ⟨n, hn, e1, e2, e3⟩ := eb_IB h
  have hN : 2 ^ n ≤ 64 := Nat.pow_le_pow_right (n := 2) (j := 6) (by decide) hn
  have hA : ea_loop f_X11_cover_s7 ea_fuel (7, 0, 0, m) = some (eb_c2 (eb_cv (m 273) (2 ^ n)), m) := by
    refine eb_loopF (2 ^ n) (fun i => (eb_c1 (eb_cv (m 273) i), eb_c2 (eb_cv (m 273) i), nI i, m)) _ rfl (fun i hi => ?_) ?_ (by unfold ea_fuel; omega)
    · have nx : eb_cv (m 273) (i + 1) = if eb_co (m 273) (nI i) (eb_k (m 273)) = true then (match eb_cv (m 273) i with | none => some i | some b => if eb_bc (nI b) ≤ eb_bc (nI i) then some b else some i) else eb_cv (m 273) i := rfl
      simp only [f_X11_cover_s7, f_X11_cover_j49, eb_bdR, e2, eb_shl1 n (by omega), if_neg (nI_ge hi (show 2 ^ n < 2 ^ 31 by omega)), eb_bcE, eb_clR, eb_coverA h, nI_1]
      rw [nx]
      cases hc : eb_co (m 273) (nI i) (eb_k (m 273)) with
      | false =>
        rw [if_neg (show ¬ false = true by decide), if_pos (show eb_b2 false = 0 from rfl)]
        by_cases z : eb_c1 (eb_cv (m 273) i) ≤ eb_bc (nI i)
        · rw [if_pos z]
        · rw [if_neg z]
      | true =>
        rw [if_pos (show true = true from rfl), if_neg (show ¬ eb_b2 true = 0 by decide)]
        cases ho : eb_cv (m 273) i with
        | none =>
          have := eb_bc7 i (by omega)
          rw [if_neg (show ¬ eb_c1 none ≤ eb_bc (nI i) from Int32.not_le.mpr this)]
          rfl
        | some b =>
          show (if eb_bc (nI b) ≤ eb_bc (nI i) then _ else _) = some (Sum.inl (eb_c1 (if eb_bc (nI b) ≤ eb_bc (nI i) then some b else some i), eb_c2 (if eb_bc (nI b) ≤ eb_bc (nI i) then some b else some i), nI (i + 1), m))
          by_cases z : eb_bc (nI b) ≤ eb_bc (nI i)
          · simp only [if_pos z]
          · simp only [if_neg z]; rfl
    · simp only [f_X11_cover_s7, eb_bdR, e2, eb_shl1 n (by omega), if_pos (nI_le (Nat.le_refl (2 ^ n)) (show 2 ^ n < 2 ^ 31 by omega))]
  have h' := eb_I_cg (eb_E0 m) h
  have hM : ea_loop f_X12_cover_s9 ea_fuel (-1, 0, ea_st m 272 0 0) = some (eb_c3 (eb_cv (m 273) (2 ^ n)), ea_st m 272 0 0) := by
    have q1 : (ea_st m 272 0 0) 273 = m 273 := rfl
    have e1' : (ea_st m 272 0 0) 273 0 = nI n := e1
    refine eb_loopF (2 ^ n) (fun i => (eb_c3 (eb_cv (m 273) i), nI i, ea_st m 272 0 0)) _ rfl (fun i hi => ?_) ?_ (by unfold ea_fuel; omega)
    · have nx : eb_cv (m 273) (i + 1) = if eb_co (m 273) (nI i) (eb_k (m 273)) = true then (match eb_cv (m 273) i with | none => some i | some b => if eb_bc (nI b) ≤ eb_bc (nI i) then some b else some i) else eb_cv (m 273) i := rfl
      simp only [f_X12_cover_s9, f_X12_cover_j42, f_X12_cover_j44, eb_birds, e1', eb_shl1 n (by omega), if_neg (nI_ge hi (show 2 ^ n < 2 ^ 31 by omega)), eb_bcE, eb_clR, eb_coverM h', nI_1, q1]
      rw [nx]
      cases hc : eb_co (m 273) (nI i) (eb_k (m 273)) with
      | false => rw [if_neg (show ¬ false = true by decide), if_pos (show eb_b2 false = 0 from rfl)]
      | true =>
        rw [if_pos (show true = true from rfl), if_neg (show ¬ eb_b2 true = 0 by decide)]
        cases ho : eb_cv (m 273) i with
        | none =>
          rw [if_pos (show eb_c3 none < 0 by decide)]
          rfl
        | some b =>
          have hb := eb_cv_lt _ _ _ ho
          rw [if_neg (show ¬ eb_c3 (some b) < 0 from nI_pos (by omega))]
          show (if eb_bc (nI b) ≤ eb_bc (nI i) then _ else _) = some (Sum.inl (eb_c3 (if eb_bc (nI b) ≤ eb_bc (nI i) then some b else some i), nI (i + 1), ea_st m 272 0 0))
          by_cases z : eb_bc (nI b) ≤ eb_bc (nI i)
          · simp only [if_pos z]
          · simp only [if_neg z]; rfl
    · simp only [f_X12_cover_s9, eb_birds, eb_clR, e1', eb_shl1 n (by omega), if_pos (nI_le (Nat.le_refl (2 ^ n)) (show 2 ^ n < 2 ^ 31 by omega))]
  have hs : ∃ b, eb_cv (m 273) (2 ^ n) = some b := by
    have p0 : 0 < 2 ^ n := Nat.two_pow_pos n
    have full : ∀ k, k ≤ eb_k (m 273) → eb_co (m 273) (nI (2 ^ n - 1)) k = true := by
      intro k
      induction k with
      | zero => intro _; rfl
      | succ k ih =>
        intro hk
        obtain ⟨_, _, _, _, _, ⟨p, p1, p2, p3⟩, _⟩ := h.1.1.2.2.2.2.2.1 k (by omega)
        rw [e3] at p2
        show (eb_co (m 273) (nI (2 ^ n - 1)) k && !(decide (m 273 (77 + 4 * k) = 0) && decide (m 273 (76 + 4 * k) &&& nI (2 ^ n - 1) = 0))) = true
        rw [ih (by omega), p3, pk_andN (by omega) n (pk_tn (by omega)), Nat.mod_eq_of_lt p2, decide_eq_false (nI_ne0 p1 (by omega)), Bool.and_false]
        rfl
    have nx : eb_cv (m 273) (2 ^ n - 1 + 1) = if eb_co (m 273) (nI (2 ^ n - 1)) (eb_k (m 273)) = true then (match eb_cv (m 273) (2 ^ n - 1) with | none => some (2 ^ n - 1) | some b => if eb_bc (nI b) ≤ eb_bc (nI (2 ^ n - 1)) then some b else some (2 ^ n - 1)) else eb_cv (m 273) (2 ^ n - 1) := rfl
    rw [show 2 ^ n - 1 + 1 = 2 ^ n by omega, if_pos (full _ (Nat.le_refl _))] at nx
    rw [nx]
    cases eb_cv (m 273) (2 ^ n - 1) with
    | none => exact ⟨_, rfl⟩
    | some b =>
      dsimp only
      by_cases z : eb_bc (nI b) ≤ eb_bc (nI (2 ^ n - 1))
      · rw [if_pos z]; exact ⟨_, rfl⟩
      · rw [if_neg z]; exact ⟨_, rfl⟩
  obtain ⟨b, eb⟩ := hs
  rw [eb] at hA hM
  refine eb_P2q h (v := nI b) (m1 := m) (m2 := ea_st m 272 0 0) ?_ ?_ (eb_E0 m)
  · unfold f_X11_cover
    rw [hA]; rfl
  · unfold f_X12_cover
    rw [eb_bdR, hM]; rfl
end RICH
