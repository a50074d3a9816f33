section LOOPS
variable {σ τ ρ π : Type}
theorem eb_loop_inl {step : σ → Option (σ ⊕ ρ)} {s s' : σ} (h : step s = some (.inl s')) (f : Nat) : ea_loop step (f + 1) s = ea_loop step f s' := by
  show (match step s with | none => none | some (.inl s') => ea_loop step f s' | some (.inr r) => some r) = _
  rw [h]
theorem eb_loop_inr {step : σ → Option (σ ⊕ ρ)} {s : σ} {r : ρ} (h : step s = some (.inr r)) (f : Nat) : ea_loop step (f + 1) s = some r := by
  show (match step s with | none => none | some (.inl s') => ea_loop step f s' | some (.inr r) => some r) = _
  rw [h]
/-- two loops side by side -/
theorem eb_sim {step : σ → Option (σ ⊕ ρ)} {step' : τ → Option (τ ⊕ π)} (Q : ρ → π → Prop) (R : Nat → σ → τ → Prop) (N : Nat)
    (hs : ∀ i s t, i < N → R i s t → (∃ s' t', step s = some (.inl s') ∧ step' t = some (.inl t') ∧ R (i + 1) s' t') ∨ ∃ r p, step s = some (.inr r) ∧ step' t = some (.inr p) ∧ Q r p)
    (he : ∀ s t, R N s t → ∃ r p, step s = some (.inr r) ∧ step' t = some (.inr p) ∧ Q r p) :
    ∀ (k i f g : Nat) (s : σ) (t : τ), i + k = N → k < f → k < g → R i s t → ∃ r p, ea_loop step f s = some r ∧ ea_loop step' g t = some p ∧ Q r p := by
  intro k
  induction k with
  | zero =>
    intro i f g s t hi hf hg hR
    obtain ⟨f, rfl⟩ : ∃ f', f = f' + 1 := ⟨f - 1, by omega⟩
    obtain ⟨g, rfl⟩ : ∃ g', g = g' + 1 := ⟨g - 1, by omega⟩
    have hi : i = N := hi
    subst hi
    obtain ⟨r, p, e1, e2, q⟩ := he s t hR
    exact ⟨r, p, eb_loop_inr e1 f, eb_loop_inr e2 g, q⟩
  | succ k ih =>
    intro i f g s t hi hf hg hR
    obtain ⟨f, rfl⟩ : ∃ f', f = f' + 1 := ⟨f - 1, by omega⟩
    obtain ⟨g, rfl⟩ : ∃ g', g = g' + 1 := ⟨g - 1, by omega⟩
    rcases hs i s t (by omega) hR with ⟨s', t', e1, e2, hR'⟩ | ⟨r, p, e1, e2, q⟩
    · rw [eb_loop_inl e1, eb_loop_inl e2]
      exact ih (i + 1) f g s' t' (by omega) (by omega) (by omega) hR'
    · exact ⟨r, p, eb_loop_inr e1 f, eb_loop_inr e2 g, q⟩
theorem eb_loopB {step : σ → Option (σ ⊕ ρ)} {g : ρ → Option τ} {t : Option τ} (N : Nat) (S : Nat → σ) (r : ρ) {f : Nat} {s : σ} (h0 : s = S 0) (hs : ∀ i, i < N → step (S i) = some (.inl (S (i + 1)))) (he : step (S N) = some (.inr r)) (hf : N < f) (hg : g r = t) : (ea_loop step f s).bind g = t := by
  rw [eb_loopF N S r h0 hs he hf]
  exact hg
theorem eb_F_ext {f : Nat → σ → σ} {s : σ} {n : Nat} : ∀ (d : Nat), (∀ i t, n ≤ i → i < n + d → f i t = t) → eb_F f s (n + d) = eb_F f s n
  | 0, _ => rfl
  | d + 1, h => by
    show f (n + d) (eb_F f s (n + d)) = _
    rw [h (n + d) _ (by omega) (by omega)]
    exact eb_F_ext d fun i t h1 h2 => h i t h1 (by omega)
end LOOPS
section CHOICES
variable {m : ea_M}
/-- the choices of side s in case k -/
def eb_ch1 (pr : Int32) (st : Nat → Int32) (b : Nat) (a : Int32) : Int32 := if (pr >>> (nI b &&& 31)) &&& 1 = 1 ∧ 0 < st b then a ||| (1 <<< (nI b &&& 31)) else a
def eb_chs (w : Nat → Int32) (k s : Nat) : Int32 := eb_F (eb_ch1 (w (76 + 4 * k)) fun b => w (50 + 6 * (w (74 + 4 * k + s)).toNatClampNeg + b)) 0 (eb_b w)
theorem eb_choicesL {f k : Nat} (hf : f < 4) (hk : k < 12) (m : ea_M) : ea_loop (f_X1_choices_s26 8 (nI k) (nI f)) ea_fuel (0, 0, m) = some (eb_F (eb_ch1 (m 12 k) fun b => m 9 (6 * f + b)) 0 6, m) := by
  refine eb_loopF 6 (fun i => (eb_F (eb_ch1 (m 12 k) fun b => m 9 (6 * f + b)) 0 i, nI i, m)) _ rfl (fun i hi => ?_) ?_ (by decide)
  · have g1 : ¬ (6 : Int32) ≤ nI i := nI_ge (b := 6) hi (by decide)
    simp only [f_X1_choices_s26, f_X1_choices_j66, g1, if_false, eb_gN hk (show 12 < 2147483648 by omega), eb_bdR, nI_clamp (show k < 2 ^ 31 by omega), eb_held 8 (show 6 * f + i < 24 by omega), eb_clR, nI_1]
    show _ = some (Sum.inl (eb_ch1 (m 12 k) (fun b => m 9 (6 * f + b)) i (eb_F (eb_ch1 (m 12 k) fun b => m 9 (6 * f + b)) 0 i), nI (i + 1), m))
    unfold eb_ch1
    by_cases q1 : (m 12 k >>> (nI i &&& 31)) &&& 1 = 1
    · have q2 : ¬ (m 12 k >>> (nI i &&& 31)) &&& 1 = 0 := fun z => (eb_bit0 _ _).mp z q1
      rw [if_neg q2]
      by_cases q3 : m (8 + 1) (6 * f + i) ≤ 0
      · rw [if_pos q3, if_neg (fun z => absurd q3 (Int32.not_le.mpr z.2))]
      · rw [if_neg q3, if_pos ⟨q1, Int32.not_le.mp q3⟩]
    · rw [if_pos ((eb_bit0 _ _).mpr q1), if_neg (fun z => q1 z.1)]
  · rfl
theorem eb_chs6 (h : eb_I m) {k f s : Nat} (hf : f < 4) (e : m 273 (74 + 4 * k + s) = nI f) (e2 : m 12 k = m 273 (76 + 4 * k)) : eb_F (eb_ch1 (m 12 k) fun b => m 9 (6 * f + b)) 0 6 = eb_chs (m 273) k s := by
  obtain ⟨n, hn, e3, e4, e5⟩ := eb_IB h
  have h5 := h.1.1.2.2.2.2.1
  have e6 := eb_F_ext (f := eb_ch1 (m 12 k) fun b => m 9 (6 * f + b)) (s := 0) (n := n) (6 - n) (fun i t h1 h2 => by
    have z1 : m 9 (6 * f + i) = m 273 (50 + 6 * f + i) := (h5 f i hf (by omega)).1
    have z2 : m 273 (50 + 6 * f + i) = 0 := (h5 f i hf (by omega)).2.2 (by omega)
    unfold eb_ch1
    rw [if_neg]
    intro z
    have z3 : 0 < m 9 (6 * f + i) := z.2
    rw [z1, z2] at z3
    exact absurd z3 (by decide))
  rw [show n + (6 - n) = 6 by omega] at e6
  rw [e6]
  unfold eb_chs
  rw [e, nI_clamp (by omega), e5, e2]
  refine eb_F_cg fun i t hi => ?_
  have z1 : m 9 (6 * f + i) = m 273 (50 + 6 * f + i) := (h5 f i hf (by omega)).1
  unfold eb_ch1
  simp only [z1]
theorem eb_choicesA (h : eb_I m) {k s : Nat} (hk : k < eb_k (m 273)) (hs : s < 2) : f_X1_choices 8 (nI k) (nI s) m = some (eb_chs (m 273) k s, m) := by
  obtain ⟨n, hn, e3, e4, e5⟩ := eb_IK h
  obtain ⟨a1, a2, a3, a4, ⟨f, g, b1, b2, b3, b4, b5⟩, a6, a7⟩ := h.1.1.2.2.2.2.2.1 k hk
  have hc : eb_nc (m 273) ≤ 4 := h.1.1.2.1.2.1.2
  have a1 : m 10 k = m 273 (74 + 4 * k) := a1
  have a2 : m 11 k = m 273 (75 + 4 * k) := a2
  have a3 : m 12 k = m 273 (76 + 4 * k) := a3
  unfold f_X1_choices
  obtain rfl | rfl : s = 0 ∨ s = 1 := by omega
  · rw [if_pos (show nI 0 = 0 from rfl), eb_gN (by omega) (by omega), eb_bdR, nI_clamp (by omega), show m (8 + 2) k = nI f from a1.trans b4]
    unfold f_X1_choices_j19
    rw [eb_choicesL (by omega) (by omega), eb_obR, eb_chs6 h (by omega) (s := 0) b4 a3]
  · rw [if_neg (show ¬ nI 1 = 0 by decide), eb_gN (by omega) (by omega), eb_bdR, nI_clamp (by omega), show m (8 + 3) k = nI g from a2.trans b5]
    unfold f_X1_choices_j19
    rw [eb_choicesL (by omega) (by omega), eb_obR, eb_chs6 h (by omega) (s := 1) (by rw [show 74 + 4 * k + 1 = 75 + 4 * k by omega]; exact b5) a3]
theorem eb_choicesM {n k s f : Nat} (hn : n ≤ 6) (e0 : m 273 0 = nI n) (hk : k < 12) (hs : s < 2) (hf : f < 4) (e : m 273 (74 + 4 * k + s) = nI f) : f_X12_choices (nI k) (nI s) m = some (eb_chs (m 273) k s, m) := by
  unfold f_X12_choices eb_chs
  have e5 : eb_b (m 273) = n := by unfold eb_b; rw [e0]; exact nI_clamp (by omega)
  rw [e, nI_clamp (by omega), e5]
  refine eb_loopB n (fun i => (eb_F (eb_ch1 (m 273 (76 + 4 * k)) fun b => m 273 (50 + 6 * f + b)) 0 i, nI i, m)) (eb_F (eb_ch1 (m 273 (76 + 4 * k)) fun b => m 273 (50 + 6 * f + b)) 0 n, m) rfl (fun i hi => ?_) ?_ (by unfold ea_fuel; omega) rfl
  · have g1 : ¬ nI n ≤ nI i := nI_ge hi (by omega)
    simp only [f_X12_choices_s5, f_X12_choices_j51, f_X12_choices_j52, eb_birds, e0, g1, if_false, show (2 : Int32) = nI 2 from rfl, eb_ofCase (show 74 + 4 * k + 2 < 2180 by omega), eb_ofCase (show 74 + 4 * k + s < 2180 by omega), e, eb_stockOf (show 50 + 6 * f + i < 2180 by omega), eb_bdR, eb_clR, nI_1, Int32.or_zero]
    show _ = some (Sum.inl (eb_ch1 (m 273 (76 + 4 * k)) (fun b => m 273 (50 + 6 * f + b)) i (eb_F (eb_ch1 (m 273 (76 + 4 * k)) fun b => m 273 (50 + 6 * f + b)) 0 i), nI (i + 1), m))
    unfold eb_ch1
    rw [show 74 + 4 * k + 2 = 76 + 4 * k by omega]
    by_cases q1 : (m 273 (76 + 4 * k) >>> (nI i &&& 31)) &&& 1 = 1
    · rw [eb_hasT q1, eb_clR, if_neg (show ¬ (1 : Int32) = 0 by decide), e, eb_stockOf (show 50 + 6 * f + i < 2180 by omega), eb_clR]
      by_cases q3 : m 273 (50 + 6 * f + i) ≤ 0
      · rw [if_pos q3, if_neg (fun z => absurd q3 (Int32.not_le.mpr z.2))]
      · rw [if_neg q3, if_pos ⟨q1, Int32.not_le.mp q3⟩]
    · rw [eb_hasF q1, eb_clR, if_pos rfl, if_neg (fun z => q1 z.1)]
  · simp only [f_X12_choices_s5, eb_birds, e0, eb_clR, if_pos (nI_le (Nat.le_refl n) (show n < 2 ^ 31 by omega))]
end CHOICES
