section ACT
variable {m m1 m2 m3 m' : ea_M} {I : ea_M → Prop}
theorem eb_Lw {y : Option ea_O} {g : Nat → ea_M → Option (Int32 × ea_M)} {f : ea_M → Option (Int32 × ea_M)} (R : Int32 → ea_M → Prop) (hy : eb_W y (fun o => o.1 = 0 ∧ R o.2.1 o.2.2)) (hf : ∀ v m1, R v m1 → eb_W (f (ea_st m1 287 0 v)) (fun y => y.2 272 0 = 0 ∧ y.2 287 0 = y.1 ∧ I y.2)) : eb_P I (ea_cx y (fun r2 m1 => ea_bd (ea_st m1 287 0 r2) fun m3 => some (0, m3)) g) f := by
  refine eb_cx hy (fun r m1 h1 => eb_bd (eb_some ?_)) (fun k r m1 hk h1 => absurd h1.1 hk)
  exact eb_mono (hf r m1 h1.2) fun y hy => ⟨hy.1, fun _ => hy.2.1, hy.2.2⟩
/-- what an act leaves alone -/
def eb_NK (a i : Nat) : Prop := (a = 0 ∧ (i = 1 ∨ i = 2 ∨ i = 9)) ∨ a = 1 ∨ (a = 16 ∧ i ≤ 1) ∨ (17 ≤ a ∧ a ≤ 21) ∨ (50 ≤ a ∧ a ≤ 71) ∨ (a = 272 ∧ (i = 6 ∨ i = 9 ∨ i = 14)) ∨ (a = 273 ∧ (i = 4 ∨ (482 ≤ i ∧ i < 1331))) ∨ a = 274 ∨ a = 278
theorem eb_act (h : eb_I m) (hC : eb_C (eb_ct m' 2) (m' 273)) (hpa : eb_pa m') (hE : ∀ a i, eb_NK a i → m' a i = m a i) (hfa : eb_fa m') : eb_I m' := by
  obtain ⟨⟨h1, h2, h3, ⟨i1, i2⟩, ⟨L, t1, t2, t3, t4⟩, h6⟩, _⟩ := h
  refine ⟨⟨hC, eb_LR_cg (l := eb_ct m 16) (l' := eb_ct m' 16) (hE 16 0 (by unfold eb_NK; omega)) (hE 16 1 (by unfold eb_NK; omega)) (fun i j _ _ _ => hE (16 + i) j (by unfold eb_NK; omega)) (fun j _ _ => hE 21 j (by unfold eb_NK; omega)) (hE 273 4 (by unfold eb_NK; omega)) (fun j _ hj => hE 273 j (by unfold eb_NK; omega)) h2, hpa, ⟨?_, ?_⟩, ⟨L, t1, ?_, ?_, fun j hj => ?_⟩, ?_⟩, hfa⟩
  · rw [hE 0 9 (by unfold eb_NK; omega), hE 272 6 (by unfold eb_NK; omega)]; exact i1
  · rw [hE 0 9 (by unfold eb_NK; omega)]
    rcases i2 with z | ⟨z, z1, z2⟩
    · exact Or.inl z
    · refine Or.inr ⟨z, eb_C_cg (fun i j hj => ?_) (fun j _ => hE 274 j (by unfold eb_NK; omega)) z1, eb_LR_cg (l := eb_ct m 64) (l' := eb_ct m' 64) (hE 64 0 (by unfold eb_NK; omega)) (hE 64 1 (by unfold eb_NK; omega)) (fun i j _ _ _ => hE (64 + i) j (by unfold eb_NK; omega)) (fun j _ _ => hE 69 j (by unfold eb_NK; omega)) (hE 274 4 (by unfold eb_NK; omega)) (fun j _ hj => hE 274 j (by unfold eb_NK; omega)) z2⟩
      have := eb_lenI hj
      exact hE (50 + i) j (by unfold eb_NK; omega)
  · rw [hE 0 1 (by unfold eb_NK; omega)]; exact t2
  · rw [hE 272 9 (by unfold eb_NK; omega)]; exact t3
  · rw [hE 1 j (by unfold eb_NK; omega), hE 278 j (by unfold eb_NK; omega)]; exact t4 j hj
  · rw [hE 0 2 (by unfold eb_NK; omega), hE 272 14 (by unfold eb_NK; omega)]; exact h6
theorem eb_pa_next {x q : Nat} (hx : x < 12) (hq : q ≤ 12) (hC : eb_C (eb_ct m 2) (m 273)) (hp : ∀ j, j < q → eb_C (eb_ct m (86 + 14 * ((x + 12 - q + j) % 12))) (eb_sl m j) ∧ eb_sl m j 4 = m 273 4)
    (A1 : ∀ i j, j < eb_len i → m' (86 + 14 * x + i) j = m (2 + i) j) (A2 : ∀ b, 86 ≤ b → b < 254 → ¬ (86 + 14 * x ≤ b ∧ b < 100 + 14 * x) → m' b = m b) (A3 : m' 0 13 = nI (min 12 (q + 1))) (A4 : m' 0 14 = nI ((x + 1) % 12))
    (B1 : m' 272 7 = nI (min 12 (q + 1))) (B2 : ∀ j i, j < min 12 (q + 1) → i < 482 → m' 277 (482 * j + i) = if j + 1 = min 12 (q + 1) then m 273 i else m 277 (482 * (if q = 12 then j + 1 else j) + i)) (B4 : m' 273 4 = m 273 4) : eb_pa m' := by
  refine ⟨min 12 (q + 1), (x + 1) % 12, by omega, by omega, A3, B1, A4, fun j hj => ?_⟩
  by_cases h1 : j + 1 = min 12 (q + 1)
  · have e : ((x + 1) % 12 + 12 - min 12 (q + 1) + j) % 12 = x := by omega
    rw [e]
    refine ⟨eb_C_cg (fun i jj hjj => A1 i jj hjj) (fun i hi => ?_) hC, ?_⟩
    · exact (B2 j i hj hi).trans (if_pos h1)
    · exact ((B2 j 4 hj (by decide)).trans (if_pos h1)).trans B4.symm
  · obtain ⟨jj, hjj⟩ : ∃ jj, jj = if q = 12 then j + 1 else j := ⟨_, rfl⟩
    have h2 : jj < q ∧ ((x + 1) % 12 + 12 - min 12 (q + 1) + j) % 12 = (x + 12 - q + jj) % 12 ∧ (x + 12 - q + jj) % 12 ≠ x := by
      by_cases h12 : q = 12
      · rw [if_pos h12] at hjj
        omega
      · rw [if_neg h12] at hjj
        omega
    rw [h2.2.1]
    obtain ⟨p1, p2⟩ := hp jj h2.1
    refine ⟨eb_C_cg (fun i k hk => ?_) (fun i hi => ?_) p1, ?_⟩
    · have := eb_lenI hk
      exact congrFun (A2 (86 + 14 * ((x + 12 - q + jj) % 12) + i) (by omega) (by omega) (by omega)) k
    · refine (B2 j i hj hi).trans ?_
      rw [if_neg h1, ← hjj]
      rfl
    · refine ((B2 j 4 hj (by decide)).trans ?_).trans (p2.trans B4.symm)
      rw [if_neg h1, ← hjj]
      rfl
/-- what the class's part of an act writes besides remembering: the court's rows, known, out, scratch -/
def eb_W1 (a i : Nat) : Prop := (2 ≤ a ∧ a ≤ 15) ∨ (a = 0 ∧ i = 18) ∨ a = 287 ∨ (a = 16 ∧ 2 ≤ i) ∨ (22 ≤ a ∧ a ≤ 49) ∨ (72 ≤ a ∧ a ≤ 85)
/-- what the reference's part writes besides remembering: the world but its law, scratch -/
def eb_W2 (a i : Nat) : Prop := (a = 273 ∧ i < 482 ∧ i ≠ 4) ∨ (a = 272 ∧ i ≠ 6 ∧ i ≠ 7 ∧ i ≠ 9 ∧ i ≠ 14) ∨ a = 275 ∨ a = 276 ∨ 279 ≤ a
/-- the past of both: m before the act, z behind the class's remember, m1 at the class's end, y behind the reference's remembers, m3 at the end -/
theorem eb_fin {z y : ea_M} {x q : Nat} (h : eb_I m) (hx : x < 12) (hq : q ≤ 12) (hp : ∀ j, j < q → eb_C (eb_ct m (86 + 14 * ((x + 12 - q + j) % 12))) (eb_sl m j) ∧ eb_sl m j 4 = m 273 4)
    (hz : (∀ i j, j < eb_len i → z (86 + 14 * x + i) j = m (2 + i) j) ∧ (∀ b, b ≠ 0 → ¬ (86 + 14 * x ≤ b ∧ b < 100 + 14 * x) → z b = m b) ∧ z 0 13 = nI (min 12 (q + 1)) ∧ z 0 14 = nI ((x + 1) % 12) ∧ ∀ i, i ≠ 13 → i ≠ 14 → z 0 i = m 0 i)
    (h1 : ∀ a i, ¬ eb_W1 a i → m1 a i = z a i)
    (hy : (∀ a, a ≠ 272 → a ≠ 277 → y a = m1 a) ∧ (∀ i, i ≠ 7 → i ≠ 0 → y 272 i = m1 272 i) ∧ y 272 7 = nI (min 12 (q + 1)) ∧ ∀ j i, j < min 12 (q + 1) → i < 482 → y 277 (482 * j + i) = if j + 1 = min 12 (q + 1) then m1 273 i else m1 277 (482 * (if q = 12 then j + 1 else j) + i))
    (h3 : ∀ a i, ¬ eb_W2 a i → m3 a i = y a i) (hC : eb_C (eb_ct m3 2) (m3 273)) (hfa : eb_fa m3) : eb_I m3 := by
  obtain ⟨z1, z2, z3, z4, z5⟩ := hz
  obtain ⟨y1, y2, y3, y4⟩ := hy
  have k1 : ∀ a i, 1 ≤ a → ¬ eb_W1 a i → ¬ (86 ≤ a ∧ a < 254) → m1 a i = m a i := fun a i ha hw hb => by
    rw [h1 a i hw, z2 a (by omega) (by omega)]
  have k3 : ∀ a i, ¬ eb_W2 a i → a ≠ 272 → a ≠ 277 → m3 a i = m1 a i := fun a i hw h2 h7 => by
    rw [h3 a i hw, y1 a h2 h7]
  have e273 : m1 273 = m 273 := funext fun i => k1 273 i (by omega) (by unfold eb_W1; omega) (by omega)
  have e277 : m1 277 = m 277 := funext fun i => k1 277 i (by omega) (by unfold eb_W1; omega) (by omega)
  refine eb_act h hC (eb_pa_next hx hq h.1.1 hp (fun i j hj => ?_) (fun b hb1 hb2 hb3 => funext fun i => ?_) ?_ ?_ ?_ (fun j i hj hi => ?_) ?_) (fun a i hn => ?_) hfa
  · have := eb_lenI hj
    rw [k3 _ _ (by unfold eb_W2; omega) (by omega) (by omega), h1 _ _ (by unfold eb_W1; omega)]
    exact z1 i j hj
  · rw [k3 _ _ (by unfold eb_W2; omega) (by omega) (by omega), h1 _ _ (by unfold eb_W1; omega), z2 b (by omega) hb3]
  · rw [k3 _ _ (by unfold eb_W2; omega) (by omega) (by omega), h1 _ _ (by unfold eb_W1; omega)]
    exact z3
  · rw [k3 _ _ (by unfold eb_W2; omega) (by omega) (by omega), h1 _ _ (by unfold eb_W1; omega)]
    exact z4
  · rw [h3 _ _ (by unfold eb_W2; omega)]
    exact y3
  · rw [h3 _ _ (by unfold eb_W2; omega), y4 j i hj hi, e273, e277]
  · rw [k3 _ _ (by unfold eb_W2; omega) (by omega) (by omega), e273]
  · unfold eb_NK at hn
    by_cases q0 : a = 0
    · subst q0
      rw [k3 _ _ (by unfold eb_W2; omega) (by omega) (by omega), h1 _ _ (by unfold eb_W1; omega)]
      exact z5 i (by omega) (by omega)
    · by_cases q2 : a = 272
      · subst q2
        rw [h3 _ _ (by unfold eb_W2; omega), y2 i (by omega) (by omega)]
        exact k1 _ _ (by omega) (by unfold eb_W1; omega) (by omega)
      · rw [k3 _ _ (by unfold eb_W2; omega) q2 (by omega)]
        exact k1 _ _ (by omega) (by unfold eb_W1; omega) (by omega)
end ACT
