section RECKON
variable {m mm : ea_M} {w : Nat → Int32}
/-- the class's next, off, landed and goods -/
def eb_RD (m : ea_M) (a : Nat) (w : Nat → Int32) (d : eb_D) : Prop := (∀ p, p < 208 → m 78 p = d.1 p) ∧ m a 0 = d.2.1 ∧ (∀ j, j < 128 → m (a + 1) j = d.2.2 j) ∧ ∀ k, k < 8 → m (a + 2) (k + 1) = eb_gd w d.2.2 k
/-- where a Fates lies -/
def eb_fp (a : Nat) : Prop := a = 80 ∨ a = 83 ∨ (254 ≤ a ∧ a ≤ 269)
theorem eb_S_upd {f f' : Nat → Int32} {j : Nat} {x : Int32} (h : ∀ i, f' i = if i = j then f i + x else f i) (n : Nat) : eb_S f' n = eb_S f n + (if j < n then x else 0) := by
  induction n with
  | zero =>
    rw [if_neg (by omega), Int32.add_zero]
    rfl
  | succ n ih =>
    show eb_S f' n + f' n = eb_S f n + f n + _
    rw [ih, h n]
    by_cases q1 : n = j
    · rw [if_pos q1, if_neg (show ¬ j < n by omega), if_pos (show j < n + 1 by omega), Int32.add_zero, Int32.add_assoc]
    · rw [if_neg q1]
      by_cases q2 : j < n
      · rw [if_pos q2, if_pos (by omega), Int32.add_assoc, Int32.add_comm x, Int32.add_assoc]
      · rw [if_neg q2, if_neg (by omega), Int32.add_zero, Int32.add_zero]
theorem eb_gd_upd {l : Nat → Int32} {fr to k k' c : Nat} {x : Int32} (hf : w 9 = nI fr) (ht : w 10 = nI to) (h1 : fr ≤ to) (h2 : to ≤ 15) (hc : c < 16) : eb_gd w (upd l (16 * k + c) (l (16 * k + c) + x)) k' = eb_gd w l k' + (if k' = k ∧ fr ≤ c ∧ c ≤ to then x else 0) := by
  unfold eb_gd
  rw [hf, ht, nI_clamp (by omega), nI_clamp (by omega)]
  by_cases q1 : k' = k ∧ fr ≤ c ∧ c ≤ to
  · rw [if_pos q1]
    obtain ⟨rfl, q2, q3⟩ := q1
    rw [eb_S_upd (f := fun i => l (16 * k' + (fr + i))) (j := c - fr) (x := x) (fun i => ?_), if_pos (by omega)]
    show (if 16 * k' + (fr + i) = 16 * k' + c then l (16 * k' + c) + x else l (16 * k' + (fr + i))) = _
    by_cases q : i = c - fr
    · rw [if_pos q, if_pos (by omega), show 16 * k' + (fr + i) = 16 * k' + c by omega]
    · rw [if_neg q, if_neg (by omega)]
  · rw [if_neg q1, Int32.add_zero]
    refine eb_S_cg fun i hi => ?_
    show (if 16 * k' + (fr + i) = 16 * k + c then l (16 * k + c) + x else l (16 * k' + (fr + i))) = _
    rw [if_neg (by omega)]
theorem eb_rows : ∀ k, k < 8 → ea_rows.getD (k + 1) 0 = nI (3 ^ (7 - k)) := by decide +kernel
theorem eb_settleA {k a fr tw : Nat} {d : eb_D} {to c N : Int32} (ha : eb_fp a) (hk : k < 8) (h : eb_RD m a w d) (e2 : m 2 2 = w 9) (e3 : m 2 3 = w 10) (hf : w 9 = nI fr) (ht : w 10 = nI tw) (h1 : fr ≤ tw) (h2 : tw ≤ 15) (hto : 0 < to → ∃ t, t ≤ 12 ∧ to = nI t) :
    eb_W (f_X10_settle to c (nI (k + 1)) N a m) (fun z => eb_RD z.2 a w (eb_set k to c N d) ∧ (∀ r, r ≠ 78 → r ≠ a → r ≠ a + 1 → r ≠ a + 2 → z.2 r = m r) ∧ z.2 a 1 = m a 1) := by
  unfold eb_fp at ha
  obtain ⟨d1, d2, d3, d4⟩ := h
  have off : c < 0 ∨ 16 ≤ c → eb_W (f_X10_settle_j10 (nI (k + 1)) N a m) (fun z => eb_RD z.2 a w (eb_set k to c N d) ∧ (∀ r, r ≠ 78 → r ≠ a → r ≠ a + 1 → r ≠ a + 2 → z.2 r = m r) ∧ z.2 a 1 = m a 1) := fun q => by
    unfold f_X10_settle_j10 eb_set
    rw [if_pos q, d2, eb_bdR, eb_gN (by omega) (by decide), eb_bdR, nI_clamp (by omega), eb_rows k hk, eb_bdR]
    refine eb_bdE fun m5 e5 => eb_some ⟨⟨fun p hp => ?_, ?_, fun j hj => ?_, fun j hj => ?_⟩, fun r q1 q2 q3 q4 => ?_, ?_⟩
    · show m5 78 p = _
      rw [e5, eb_stA _ _ _ (by omega)]; exact d1 p hp
    · show m5 a 0 = _
      rw [e5, eb_st]
    · show m5 (a + 1) j = _
      rw [e5, eb_stA _ _ _ (by omega)]; exact d3 j hj
    · show m5 (a + 2) (j + 1) = _
      rw [e5, eb_stA _ _ _ (by omega)]; exact d4 j hj
    · show m5 r = _
      rw [e5, eb_stA _ _ _ q2]
    · show m5 a 1 = _
      rw [e5, eb_stI _ _ _ (by decide)]
  unfold f_X10_settle
  by_cases q1 : c < 0
  · rw [if_pos q1]
    exact off (Or.inl q1)
  · rw [if_neg q1]
    by_cases q2 : c < 16
    · obtain ⟨cc, hcc, rfl⟩ : ∃ cc, cc < 16 ∧ c = nI cc := by
        rcases pk_ix c (n := 16) (by decide) with z | z | z
        · exact absurd z q1
        · exact absurd q2 (Int32.not_lt.mpr z)
        · exact z
      have nq : ¬ (nI cc < 0 ∨ 16 ≤ nI cc) := fun z => z.elim q1 (fun y => absurd q2 (Int32.not_lt.mpr y))
      rw [if_pos q2]
      unfold eb_set
      rw [if_neg nq, nI_clamp (show cc < 2 ^ 31 by omega)]
      by_cases q3 : 0 < to
      · obtain ⟨t, ht12, rfl⟩ := hto q3
        have ix : nI t * 16 + nI cc = nI (16 * t + cc) := by
          show nI t * nI 16 + nI cc = _
          rw [pk_mul, nI_add, Nat.mul_comm]
        rw [if_pos q3, if_neg (Int32.not_le.mpr q3), nI_clamp (show t < 2 ^ 31 by omega), ix, eb_bdR, eb_gN (by omega) (by decide), eb_bdR, eb_gN (by omega) (by decide), nI_clamp (by omega), d1 _ (by omega)]
        refine eb_bdE fun m8 e8 => eb_some ⟨⟨fun p hp => ?_, ?_, fun j hj => ?_, fun j hj => ?_⟩, fun r p1 p2 p3 p4 => ?_, ?_⟩
        · show m8 78 p = upd d.1 (16 * t + cc) (d.1 (16 * t + cc) + N) p
          rw [e8, eb_sts]
          by_cases q : p = 16 * t + cc
          · rw [if_pos ⟨rfl, q⟩, q, pk_us]
          · rw [if_neg (fun y => q y.2), pk_un q]
            exact d1 p hp
        · show m8 a 0 = _
          rw [e8, eb_stA _ _ _ (by omega)]; exact d2
        · show m8 (a + 1) j = _
          rw [e8, eb_stA _ _ _ (by omega)]; exact d3 j hj
        · show m8 (a + 2) (j + 1) = _
          rw [e8, eb_stA _ _ _ (by omega)]; exact d4 j hj
        · show m8 r = _
          rw [e8, eb_stA _ _ _ p1]
        · show m8 a 1 = _
          rw [e8, eb_stA _ _ _ (by omega)]
      · have ix : (nI (k + 1) - 1) * 16 = nI (16 * k) := by
          rw [nI_pred]
          show nI k * nI 16 = _
          rw [pk_mul, Nat.mul_comm]
        rw [if_neg q3, if_pos (Int32.not_lt.mp q3), eb_gN (by omega) (by decide), eb_bdR, nI_clamp (by omega), eb_rows k hk, eb_isYardA, eb_clR, e2, e3]
        obtain ⟨X, eX⟩ : ∃ X, X = N * nI (3 ^ (7 - k)) := ⟨_, rfl⟩
        rw [← eX]
        have fin : ∀ (y : Int32) (x : Int32), (y = 0 ∧ x = 0 ∧ ¬ (fr ≤ cc ∧ cc ≤ tw)) ∨ (y = 1 ∧ x = X ∧ fr ≤ cc ∧ cc ≤ tw) → eb_W (f_X4_land a (nI cc) (nI (k + 1)) X y m) (fun z => eb_RD z.2 a w (d.1, d.2.1, upd d.2.2 (16 * k + cc) (d.2.2 (16 * k + cc) + X)) ∧ (∀ r, r ≠ 78 → r ≠ a → r ≠ a + 1 → r ≠ a + 2 → z.2 r = m r) ∧ z.2 a 1 = m a 1) := fun y x hy => by
          unfold f_X4_land
          rw [ix, eb_bdR, nI_add, eb_gN (by omega) (by decide), eb_bdR, nI_clamp (by omega), eb_gN (by omega) (by decide), d3 _ (by omega)]
          refine eb_bdE fun m3 e3' => ?_
          rw [eb_gN (by omega) (by decide), eb_bdR, nI_clamp (by omega), show m3 (a + 2) (k + 1) = eb_gd w d.2.2 k by rw [e3', eb_stA _ _ _ (by omega)]; exact d4 k hk]
          have j34 : eb_W (f_X4_land_j34 a (nI (k + 1)) (eb_gd w d.2.2 k) x m3) (fun z => eb_RD z.2 a w (d.1, d.2.1, upd d.2.2 (16 * k + cc) (d.2.2 (16 * k + cc) + X)) ∧ (∀ r, r ≠ 78 → r ≠ a → r ≠ a + 1 → r ≠ a + 2 → z.2 r = m r) ∧ z.2 a 1 = m a 1) := by
            unfold f_X4_land_j34
            rw [eb_gN (by omega) (by decide), nI_clamp (by omega)]
            refine eb_bdE fun m9 e9 => eb_some ⟨⟨fun p hp => ?_, ?_, fun j hj => ?_, fun j hj => ?_⟩, fun r p1 p2 p3 p4 => ?_, ?_⟩
            · show m9 78 p = _
              rw [e9, eb_stA _ _ _ (by omega), e3', eb_stA _ _ _ (by omega)]; exact d1 p hp
            · show m9 a 0 = _
              rw [e9, eb_stA _ _ _ (by omega), e3', eb_stA _ _ _ (by omega)]; exact d2
            · show m9 (a + 1) j = upd d.2.2 (16 * k + cc) (d.2.2 (16 * k + cc) + X) j
              rw [e9, eb_stA _ _ _ (by omega), e3', eb_sts]
              by_cases q : j = 16 * k + cc
              · rw [if_pos ⟨rfl, q⟩, q, pk_us]
              · rw [if_neg (fun u => q u.2), pk_un q]
                exact d3 j hj
            · show m9 (a + 2) (j + 1) = eb_gd w (upd d.2.2 (16 * k + cc) (d.2.2 (16 * k + cc) + X)) j
              rw [eb_gd_upd hf ht h1 h2 hcc, e9, eb_sts]
              by_cases q : j = k
              · subst q
                rw [if_pos ⟨rfl, rfl⟩]
                rcases hy with ⟨_, rfl, u⟩ | ⟨_, rfl, u⟩
                · rw [if_neg (fun v => u v.2)]
                · rw [if_pos ⟨rfl, u⟩]
              · rw [if_neg (by omega), if_neg (fun v => q v.1), Int32.add_zero, e3', eb_stA _ _ _ (by omega)]
                exact d4 j hj
            · show m9 r = _
              rw [e9, eb_stA _ _ _ p4, e3', eb_stA _ _ _ p3]
            · show m9 a 1 = _
              rw [e9, eb_stA _ _ _ (by omega), e3', eb_stA _ _ _ (by omega)]
          rcases hy with ⟨rfl, rfl, u⟩ | ⟨rfl, rfl, u⟩
          · rw [if_pos rfl]
            exact j34
          · rw [if_neg eb_ne10]
            exact j34
        have cond : (w 9 ≤ nI cc ∧ nI cc ≤ w 10) ↔ (fr ≤ cc ∧ cc ≤ tw) := by
          rw [hf, ht, nI_leI (by omega) (by omega), nI_leI (by omega) (by omega)]
        by_cases q4 : w 9 ≤ nI cc ∧ nI cc ≤ w 10
        · rw [if_pos q4]
          exact eb_cl (fin 1 X (Or.inr ⟨rfl, rfl, cond.mp q4⟩)) fun r m12 hz => eb_some hz
        · rw [if_neg q4]
          exact eb_cl (fin 0 0 (Or.inl ⟨rfl, rfl, fun z => q4 (cond.mpr z)⟩)) fun r m12 hz => eb_some hz
    · rw [if_neg q2]
      exact off (Or.inr (Int32.not_lt.mp q2))
end RECKON
