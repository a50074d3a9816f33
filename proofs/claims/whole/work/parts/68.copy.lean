section COPY
variable {m mm : ea_M} {a p r k : Nat} {τ : Type}
/-- rows of a court copied so far: the rows below r, and k slots of row r -/
def eb_cpR (a p r k : Nat) (m mm : ea_M) : Prop := (∀ i j, i < r → j < eb_len i → mm (a + i) j = m (p + i) j) ∧ (∀ j, j < k → mm (a + r) j = m (p + r) j) ∧ ∀ b, ¬ (a ≤ b ∧ b < a + 14) → mm b = m b
theorem eb_cpF {F : ea_M → Option τ} {Q : τ → Prop} {A P : Nat} (r k : Nat) (hd : a + 14 ≤ p ∨ p + 14 ≤ a) (hr : r < 14) (h : eb_cpR a p r k m mm) (hF : ∀ mm', eb_cpR a p r (k + 1) m mm' → eb_W (F mm') Q) (hA : A = a + r := by rfl) (hP : P = p + r := by rfl) : eb_W (ea_bd (mm P k) fun x => ea_bd (ea_st mm A k x) F) Q := by
  subst hA hP
  obtain ⟨h1, h2, h3⟩ := h
  refine eb_bd (eb_bd (hF _ ⟨fun i j hi hj => ?_, fun j hj => ?_, fun b hb => ?_⟩))
  · rw [eb_stA _ _ _ (by omega)]
    exact h1 i j hi hj
  · by_cases q : j = k
    · subst q
      rw [eb_st, h3 (p + r) (by omega)]
    · rw [eb_stI _ _ _ q]
      exact h2 j (by omega)
  · rw [eb_stA _ _ _ (by omega)]
    exact h3 b hb
theorem eb_cpN (h : eb_cpR a p r (eb_len r) m mm) : eb_cpR a p (r + 1) 0 m mm := by
  obtain ⟨h1, h2, h3⟩ := h
  refine ⟨fun i j hi hj => ?_, fun j hj => absurd hj (Nat.not_lt_zero _), h3⟩
  by_cases q : i = r
  · subst q
    exact h2 j hj
  · exact h1 i j (by omega) hj
theorem eb_cpA {F : ea_M → Option τ} {Q : τ → Prop} {A P L : Nat} (r : Nat) (hd : a + 14 ≤ p ∨ p + 14 ≤ a) (hr : r < 14) (h : eb_cpR a p r 0 m mm) (hF : ∀ mm', eb_cpR a p (r + 1) 0 m mm' → eb_W (F mm') Q) (hL : L = eb_len r := by rfl) (hA : A = a + r := by rfl) (hP : P = p + r := by rfl) : eb_W (ea_bd (ea_up mm A (va_cpy (mm P) (mm A) 0 0 L)) F) Q := by
  subst hA hP hL
  obtain ⟨h1, h2, h3⟩ := h
  refine eb_bd (hF _ (eb_cpN ⟨fun i j hi hj => ?_, fun j hj => ?_, fun b hb => ?_⟩))
  · rw [eb_upN _ _ (by omega)]
    exact h1 i j hi hj
  · rw [eb_up, pk_cpy_in (by omega) (by omega), h3 (p + r) (by omega), Nat.zero_add, Nat.sub_zero]
  · rw [eb_upN _ _ (by omega)]
    exact h3 b hb
theorem eb_copy (a p : Nat) (hd : a + 14 ≤ p ∨ p + 14 ≤ a) (m : ea_M) : eb_W (f_X2_copyFrom a p m) (fun z => (∀ i j, j < eb_len i → z.2 (a + i) j = m (p + i) j) ∧ ∀ b, ¬ (a ≤ b ∧ b < a + 14) → z.2 b = m b) := by
  unfold f_X2_copyFrom
  have s0 : eb_cpR a p 0 0 m m := ⟨fun i j hi _ => absurd hi (Nat.not_lt_zero _), fun j hj => absurd hj (Nat.not_lt_zero _), fun b _ => rfl⟩
  refine eb_cpF 0 0 hd (by decide) s0 fun m1 s1 => ?_
  refine eb_cpF 0 1 hd (by decide) s1 fun m2 s2 => ?_
  refine eb_cpF 0 2 hd (by decide) s2 fun m3 s3 => ?_
  refine eb_cpF 0 3 hd (by decide) s3 fun m4 s4 => ?_
  refine eb_cpF 0 4 hd (by decide) s4 fun m5 s5 => ?_
  refine eb_cpF 0 5 hd (by decide) s5 fun m6 s6 => ?_
  refine eb_cpF 0 6 hd (by decide) s6 fun m7 s7 => ?_
  refine eb_cpF 0 7 hd (by decide) s7 fun m8 s8 => ?_
  refine eb_cpF 0 8 hd (by decide) s8 fun m9 s9 => ?_
  refine eb_cpA 1 hd (by decide) (eb_cpN (r := 0) s9) fun m10 s10 => ?_
  refine eb_cpA 2 hd (by decide) s10 fun m11 s11 => ?_
  refine eb_cpA 3 hd (by decide) s11 fun m12 s12 => ?_
  refine eb_cpA 4 hd (by decide) s12 fun m13 s13 => ?_
  refine eb_cpA 5 hd (by decide) s13 fun m14 s14 => ?_
  refine eb_cl (P := fun z => eb_cpR a p 12 0 m z.2) ?_ fun r1 m15 s15 => eb_cl (P := fun z => eb_cpR a p 14 0 m z.2) ?_ fun r2 m16 s16 => eb_some ⟨fun i j hj => s16.1 i j (eb_lenI hj) hj, s16.2.2⟩
  · unfold f_X1_copyFrom
    refine eb_cpF 6 0 hd (by decide) s14 fun m15 s15 => ?_
    refine eb_cpF 6 1 hd (by decide) s15 fun m16 s16 => ?_
    refine eb_cpA 7 hd (by decide) (eb_cpN (r := 6) s16) fun m17 s17 => ?_
    refine eb_cpA 8 hd (by decide) s17 fun m18 s18 => ?_
    refine eb_cpA 9 hd (by decide) s18 fun m19 s19 => ?_
    refine eb_cpA 10 hd (by decide) s19 fun m20 s20 => ?_
    refine eb_cpA 11 hd (by decide) s20 fun m21 s21 => ?_
    exact eb_some s21
  · unfold f_X6_copyFrom
    refine eb_cpF 12 0 hd (by decide) s15 fun m17 s17 => ?_
    refine eb_cpF 12 1 hd (by decide) s17 fun m18 s18 => ?_
    refine eb_cpA 13 hd (by decide) (eb_cpN (r := 12) s18) fun m19 s19 => ?_
    exact eb_some s19
end COPY
