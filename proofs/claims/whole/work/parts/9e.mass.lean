section MASS
variable {m mm : ea_M} {w : Nat → Int32}
def eb_N (f : Nat → Nat) : Nat → Nat
  | 0 => 0
  | n + 1 => eb_N f n + f n
theorem eb_N_add (f : Nat → Nat) (a : Nat) : ∀ n, eb_N f (a + n) = eb_N f a + eb_N (fun i => f (a + i)) n
  | 0 => rfl
  | n + 1 => by
    show eb_N f (a + n) + f (a + n) = eb_N f a + (eb_N (fun i => f (a + i)) n + f (a + n))
    rw [eb_N_add f a n]; omega
theorem eb_N_cg {f g : Nat → Nat} : ∀ {n : Nat}, (∀ i, i < n → f i = g i) → eb_N f n = eb_N g n
  | 0, _ => rfl
  | n + 1, h => by
    show eb_N f n + f n = eb_N g n + g n
    rw [eb_N_cg (fun i hi => h i (by omega)), h n (by omega)]
theorem eb_N_upd (f : Nat → Nat) (j x : Nat) : ∀ n, eb_N (fun i => if i = j then f j + x else f i) n = eb_N f n + if j < n then x else 0
  | 0 => rfl
  | n + 1 => by
    show eb_N (fun i => if i = j then f j + x else f i) n + (if n = j then f j + x else f n) = eb_N f n + f n + _
    rw [eb_N_upd f j x n]
    by_cases q : n = j
    · subst q
      rw [if_pos rfl, if_neg (Nat.lt_irrefl _), if_pos (Nat.lt_succ_self _)]; omega
    · rw [if_neg q]
      by_cases q2 : j < n
      · rw [if_pos q2, if_pos (by omega)]; omega
      · rw [if_neg q2, if_neg (by omega)]; omega
theorem eb_N0 : ∀ n, eb_N (fun _ => 0) n = 0
  | 0 => rfl
  | n + 1 => by show eb_N (fun _ => 0) n + 0 = 0; rw [eb_N0 n]
theorem eb_S_N {f : Nat → Int32} {g : Nat → Nat} (h : ∀ i, f i = nI (g i)) : ∀ n, eb_S f n = nI (eb_N g n)
  | 0 => rfl
  | n + 1 => by
    show eb_S f n + f n = nI (eb_N g n + g n)
    rw [eb_S_N h n, h n, nI_add]
/-- all that flies, each with W ways left, is blown off or has landed: at most T -/
def eb_ms (d : eb_D) (W T : Nat) : Prop := ∃ (h : Nat → Nat) (o : Nat) (l : Nat → Nat), (∀ i, d.1 i = nI (h i)) ∧ d.2.1 = nI o ∧ (∀ i, d.2.2 i = nI (l i)) ∧ W * eb_N h 208 + o + eb_N l 128 ≤ T
theorem eb_ms_le {d : eb_D} {W T U : Nat} (h : eb_ms d W T) (q : T ≤ U) : eb_ms d W U := by
  obtain ⟨a, o, l, h1, h2, h3, h4⟩ := h
  exact ⟨a, o, l, h1, h2, h3, Nat.le_trans h4 q⟩
theorem eb_upN2 {f : Nat → Int32} {g : Nat → Nat} (h : ∀ i, f i = nI (g i)) (j x : Nat) : ∀ i, upd f j (f j + nI x) i = nI (if i = j then g j + x else g i) := fun i => by
  by_cases q : i = j
  · subst q
    rw [pk_us, if_pos rfl, h, nI_add]
  · rw [pk_un q, if_neg q, h]
theorem eb_ms_set {k x T : Nat} {to c : Int32} {d : eb_D} (hk : k < 8) (ht : ¬ to ≤ 0 → to.toNatClampNeg ≤ 12) (h : eb_ms d (3 ^ (7 - k)) T) : eb_ms (eb_set k to c (nI x) d) (3 ^ (7 - k)) (T + 3 ^ (7 - k) * x) := by
  obtain ⟨W, eW⟩ : ∃ W, W = 3 ^ (7 - k) := ⟨_, rfl⟩
  unfold eb_set
  rw [← eW] at h ⊢
  obtain ⟨a, o, l, h1, h2, h3, h4⟩ := h
  by_cases q1 : c < 0 ∨ 16 ≤ c
  · rw [if_pos q1]
    refine ⟨a, o + x * W, l, h1, ?_, h3, ?_⟩
    · show d.2.1 + nI x * nI W = _
      rw [h2, pk_mul, nI_add]
    · rw [Nat.mul_comm W x]; omega
  · rw [if_neg q1]
    have hc : c.toNatClampNeg < 16 := by
      rcases pk_ix c (n := 16) (by decide) with z | z | ⟨j, hj, rfl⟩
      · exact absurd (Or.inl z) q1
      · exact absurd (Or.inr z) q1
      · rw [nI_clamp (by omega)]; exact hj
    by_cases q2 : to ≤ 0
    · rw [if_pos q2]
      refine ⟨a, o, fun i => if i = 16 * k + c.toNatClampNeg then l (16 * k + c.toNatClampNeg) + x * W else l i, h1, h2, fun i => ?_, ?_⟩
      · show upd d.2.2 (16 * k + c.toNatClampNeg) (d.2.2 (16 * k + c.toNatClampNeg) + nI x * nI W) i = _
        rw [pk_mul]
        exact eb_upN2 h3 _ _ i
      · rw [eb_N_upd, if_pos (by omega), Nat.mul_comm W x]; omega
    · rw [if_neg q2]
      have := ht q2
      refine ⟨fun i => if i = 16 * to.toNatClampNeg + c.toNatClampNeg then a (16 * to.toNatClampNeg + c.toNatClampNeg) + x else a i, o, l, fun i => ?_, h2, h3, ?_⟩
      · show upd d.1 (16 * to.toNatClampNeg + c.toNatClampNeg) (d.1 (16 * to.toNatClampNeg + c.toNatClampNeg) + nI x) i = _
        exact eb_upN2 h1 _ _ i
      · rw [eb_N_upd, if_pos (by omega), Nat.mul_add]; omega
theorem eb_ms_gu {b : Int32} {k p x T : Nat} {g : Int32} {d : eb_D} (hk : k < 8) (hp : p < 208) (h : eb_ms d (3 ^ (7 - k)) T) : eb_ms (eb_gu w b k p (nI x) g d) (3 ^ (7 - k)) (T + 3 ^ (7 - k) * x) := by
  unfold eb_gu
  refine eb_ms_set hk (fun q => ?_) h
  obtain ⟨j, hj, e⟩ := eb_skR w b (nI (p / 16)) (nI (p % 16)) (nI k)
  rw [e] at q ⊢
  have hj2 : j < p / 16 := (eb_subN (v := p / 16) (by omega) hj).mp (Int32.not_le.mp q)
  rw [show nI (p / 16) - nI j = nI (p / 16 - j) from by rw [show nI (p / 16) = nI (p / 16 - j) + nI j from by rw [nI_add, Nat.sub_add_cancel (by omega)], Int32.add_sub_cancel], nI_clamp (by omega)]
  omega
theorem eb_ms_spr {b : Int32} {k p x T : Nat} {here : Nat → Int32} {d : eb_D} (hk : k < 8) (hp : p < 208) (hx : here p = nI x) (h : eb_ms d (3 ^ (7 - k)) T) : eb_ms (eb_spr w b k here p d) (3 ^ (7 - k)) (T + 3 ^ (7 - k) * (3 * x)) := by
  unfold eb_spr
  by_cases q : 0 < here p
  · rw [if_pos q, hx]
    refine eb_ms_le (eb_ms_gu hk hp (eb_ms_gu hk hp (eb_ms_gu hk hp h))) ?_
    rw [show 3 * x = x + x + x by omega, Nat.mul_add, Nat.mul_add]; omega
  · rw [if_neg q]
    exact eb_ms_le h (by omega)
theorem eb_ms_pl {b : Int32} {k T : Nat} {here : Nat → Int32} {hh : Nat → Nat} {d : eb_D} (hk : k < 8) (hx : ∀ p, here p = nI (hh p)) (h : eb_ms d (3 ^ (7 - k)) T) : ∀ n, n ≤ 192 → eb_ms (eb_pl w b k here d n) (3 ^ (7 - k)) (T + 3 ^ (7 - k) * (3 * eb_N (fun i => hh (16 + i)) n))
  | 0, _ => by
    show eb_ms d _ (T + 3 ^ (7 - k) * (3 * 0))
    exact eb_ms_le h (by omega)
  | n + 1, hn => by
    have nx : eb_pl w b k here d (n + 1) = eb_spr w b k here (16 + n) (eb_pl w b k here d n) := rfl
    rw [nx]
    refine eb_ms_le (eb_ms_spr hk (by omega) (hx (16 + n)) (eb_ms_pl hk hx h n (by omega))) ?_
    show _ ≤ T + 3 ^ (7 - k) * (3 * (eb_N (fun i => hh (16 + i)) n + hh (16 + n)))
    rw [Nat.mul_add 3, Nat.mul_add]; omega
theorem eb_ms_way {b : Int32} : ∀ k, k ≤ 8 → eb_ms (eb_way w b k) (3 ^ (8 - k)) 6561
  | 0, _ => by
    obtain ⟨P, eP⟩ : ∃ P, P = 16 * (w 8).toNatClampNeg + (w 7).toNatClampNeg := ⟨_, rfl⟩
    have e : eb_way w b 0 = (upd (fun _ => 0) P 1, 0, fun _ => 0) := by rw [eP]; rfl
    rw [e]
    refine ⟨fun i => if i = P then 0 + 1 else 0, 0, fun _ => 0, eb_upN2 (f := fun _ => 0) (g := fun _ => 0) (fun _ => rfl) P 1, rfl, fun _ => rfl, ?_⟩
    rw [eb_N_upd (fun _ => 0) P 1 208, eb_N0, eb_N0]
    by_cases q : P < 208
    · rw [if_pos q]; decide
    · rw [if_neg q]; decide
  | k + 1, hk => by
    obtain ⟨a, o, l, h1, h2, h3, h4⟩ := eb_ms_way (b := b) k (by omega)
    have nx : eb_way w b (k + 1) = eb_pl w b k (eb_way w b k).1 (fun _ => 0, (eb_way w b k).2.1, (eb_way w b k).2.2) 192 := rfl
    rw [nx, show 8 - (k + 1) = 7 - k by omega]
    have h0 : eb_ms (fun _ => 0, (eb_way w b k).2.1, (eb_way w b k).2.2) (3 ^ (7 - k)) (o + eb_N l 128) := ⟨fun _ => 0, o, l, fun _ => rfl, h2, h3, by rw [eb_N0]; omega⟩
    refine eb_ms_le (eb_ms_pl (by omega) h1 h0 192 (Nat.le_refl _)) ?_
    have e1 := eb_N_add a 16 192
    rw [show 16 + 192 = 208 from rfl] at e1
    rw [show 8 - k = 7 - k + 1 by omega, Nat.pow_succ, e1] at h4
    obtain ⟨X, eX⟩ : ∃ X, X = eb_N (fun i => a (16 + i)) 192 := ⟨_, rfl⟩
    obtain ⟨Y, eY⟩ : ∃ Y, Y = eb_N a 16 := ⟨_, rfl⟩
    obtain ⟨L, eL⟩ : ∃ L, L = eb_N l 128 := ⟨_, rfl⟩
    obtain ⟨W, eW⟩ : ∃ W, W = 3 ^ (7 - k) := ⟨_, rfl⟩
    rw [← eX, ← eY, ← eL, ← eW] at h4
    rw [← eX, ← eL, ← eW]
    have : W * 3 * (Y + X) = W * 3 * Y + W * (3 * X) := by rw [Nat.mul_add, Nat.mul_assoc W 3 X]
    omega
/-- what the law and the fall need of a world -/
def eb_OK (w : Nat → Int32) : Prop := (∃ l, eb_LR l w) ∧ ∃ fr tw tp tv, w 9 = nI fr ∧ w 10 = nI tw ∧ fr ≤ tw ∧ tw ≤ 15 ∧ w 8 = nI tp ∧ 1 ≤ tp ∧ tp ≤ 12 ∧ w 7 = nI tv ∧ tv ≤ 15
theorem eb_OK_of (h : eb_I m) : eb_OK (m 273) := ⟨⟨_, h.1.2.1⟩, eb_rng h⟩
/-- good in breath k + 1 of bird b's feather -/
noncomputable def eb_g8 (w : Nat → Int32) (b k : Nat) : Int32 := eb_gd w (eb_lan w (nI b)) k
theorem eb_g8N (ok : eb_OK w) (b : Nat) : ∃ G : Nat → Nat, (∀ k, eb_g8 w b k = nI (G k)) ∧ eb_N G 8 ≤ 6561 := by
  obtain ⟨_, fr, tw, tp, tv, r1, r2, r3, r4, _⟩ := ok
  obtain ⟨a, o, l, h1, h2, h3, h4⟩ := eb_ms_way (w := w) (b := nI b) 8 (Nat.le_refl _)
  have h3 : ∀ i, eb_lan w (nI b) i = nI (l i) := h3
  refine ⟨fun k => eb_N (fun i => l (16 * k + (fr + i))) (tw + 1 - fr), fun k => ?_, ?_⟩
  · unfold eb_g8 eb_gd
    rw [r1, r2, nI_clamp (by omega), nI_clamp (by omega)]
    exact eb_S_N (fun i => h3 _) _
  · have key : ∀ K, eb_N (fun k => eb_N (fun i => l (16 * k + (fr + i))) (tw + 1 - fr)) K ≤ eb_N l (16 * K) := by
      intro K
      induction K with
      | zero => exact Nat.le_refl _
      | succ K ih =>
        show eb_N (fun k => eb_N (fun i => l (16 * k + (fr + i))) (tw + 1 - fr)) K + eb_N (fun i => l (16 * K + (fr + i))) (tw + 1 - fr) ≤ _
        have e1 := eb_N_add l (16 * K) 16
        have e2 := eb_N_add (fun i => l (16 * K + i)) fr (16 - fr)
        have e3 := eb_N_add (fun i => l (16 * K + (fr + i))) (tw + 1 - fr) (16 - fr - (tw + 1 - fr))
        rw [show fr + (16 - fr) = 16 by omega] at e2
        rw [show tw + 1 - fr + (16 - fr - (tw + 1 - fr)) = 16 - fr by omega] at e3
        rw [show 16 * (K + 1) = 16 * K + 16 by omega, e1, e2, e3]
        omega
    refine Nat.le_trans (key 8) ?_
    have : eb_N l (16 * 8) = eb_N l 128 := rfl
    omega
end MASS
