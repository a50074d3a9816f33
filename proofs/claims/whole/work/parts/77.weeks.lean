section WEEKS
variable {m : ea_M}
/-- a sum of naturals -/
def eb_NS (f : Nat → Nat) : Nat → Nat
  | 0 => 0
  | n + 1 => eb_NS f n + f n
theorem eb_NS_cg {f g : Nat → Nat} : ∀ {n : Nat}, (∀ i, i < n → f i = g i) → eb_NS f n = eb_NS g n
  | 0, _ => rfl
  | n + 1, h => by
    show eb_NS f n + f n = eb_NS g n + g n
    rw [eb_NS_cg (fun i hi => h i (by omega)), h n (by omega)]
theorem eb_NS_add {f g : Nat → Nat} : ∀ (n : Nat), eb_NS (fun i => f i + g i) n = eb_NS f n + eb_NS g n
  | 0 => rfl
  | n + 1 => by
    show eb_NS (fun i => f i + g i) n + (f n + g n) = eb_NS f n + f n + (eb_NS g n + g n)
    rw [eb_NS_add n]
    omega
/-- stock j after a weeks -/
def eb_tk (s mo : Nat → Nat) (nc n a j : Nat) : Nat := if j / 6 < nc ∧ j % 6 < n then min 99 (s j + a * mo (j % 6)) else s j
/-- before (c, b) they are a' weeks on, from there a -/
def eb_vk (s mo : Nat → Nat) (nc n a a' c b j : Nat) : Nat := if j / 6 < c ∨ (j / 6 = c ∧ j % 6 < b) then eb_tk s mo nc n a' j else eb_tk s mo nc n a j
def eb_dk (s mo : Nat → Nat) (nc n a a' c b : Nat) : Nat := eb_tk s mo nc n a' (6 * c + b) - eb_tk s mo nc n a (6 * c + b)
def eb_rk (s mo : Nat → Nat) (nc n a a' c : Nat) : Nat := eb_NS (fun c => eb_NS (eb_dk s mo nc n a a' c) n) c
variable {s mo : Nat → Nat} {nc n a a' c b j : Nat}
theorem eb_vk_b (hb : b < 6) : eb_vk s mo nc n a a' c (b + 1) j = if j = 6 * c + b then eb_tk s mo nc n a' j else eb_vk s mo nc n a a' c b j := by
  unfold eb_vk
  by_cases h : j = 6 * c + b
  · rw [if_pos h, if_pos (by omega)]
  · rw [if_neg h]
    by_cases h2 : j / 6 < c ∨ (j / 6 = c ∧ j % 6 < b)
    · rw [if_pos h2, if_pos (by omega)]
    · rw [if_neg h2, if_neg (by omega)]
theorem eb_vk_c : eb_vk s mo nc n a a' c n j = eb_vk s mo nc n a a' (c + 1) 0 j := by
  unfold eb_vk
  by_cases h : j / 6 < c ∨ (j / 6 = c ∧ j % 6 < n)
  · rw [if_pos h, if_pos (by omega)]
  · rw [if_neg h]
    by_cases h2 : j / 6 < c + 1 ∨ (j / 6 = c + 1 ∧ j % 6 < 0)
    · rw [if_pos h2]
      unfold eb_tk
      rw [if_neg (by omega), if_neg (by omega)]
    · rw [if_neg h2]
theorem eb_vk_0 : eb_vk s mo nc n a a' 0 0 j = eb_tk s mo nc n a j := by
  unfold eb_vk
  rw [if_neg (by omega)]
theorem eb_vk_N : eb_vk s mo nc n a a' nc 0 j = eb_tk s mo nc n a' j := by
  unfold eb_vk
  by_cases h : j / 6 < nc ∨ (j / 6 = nc ∧ j % 6 < 0)
  · rw [if_pos h]
  · rw [if_neg h]
    unfold eb_tk
    rw [if_neg (by omega), if_neg (by omega)]
theorem eb_vk_at : eb_vk s mo nc n a a' c b (6 * c + b) = eb_tk s mo nc n a (6 * c + b) ∨ 6 ≤ b := by
  by_cases hb : b < 6
  · left
    unfold eb_vk
    rw [if_neg (by omega)]
  · right
    omega
theorem eb_tk_le (hs : ∀ j, j < 24 → s j ≤ 99) (hj : j < 24) : eb_tk s mo nc n a j ≤ 99 := by
  unfold eb_tk
  by_cases h : j / 6 < nc ∧ j % 6 < n
  · rw [if_pos h]; omega
  · rw [if_neg h]; exact hs j hj
theorem eb_tk_0 (hs : ∀ j, j < 24 → s j ≤ 99) (hj : j < 24) : eb_tk s mo nc n 0 j = s j := by
  unfold eb_tk
  have := hs j hj
  by_cases h : j / 6 < nc ∧ j % 6 < n
  · rw [if_pos h, Nat.zero_mul]; omega
  · rw [if_neg h]
theorem eb_tk_at (hc : c < nc) (hb : b < n) (hn : n ≤ 6) : eb_tk s mo nc n a (6 * c + b) = min 99 (s (6 * c + b) + a * mo b) := by
  unfold eb_tk
  rw [if_pos (by omega), show (6 * c + b) % 6 = b by omega]
theorem eb_dk_add (hc : c < nc) (hb : b < n) (hn : n ≤ 6) (hs : s (6 * c + b) ≤ 99) (k : Nat) : eb_dk s mo nc n 0 (k + 1) c b = eb_dk s mo nc n 0 k c b + eb_dk s mo nc n k (k + 1) c b := by
  unfold eb_dk
  rw [eb_tk_at hc hb hn, eb_tk_at hc hb hn, eb_tk_at hc hb hn, Nat.zero_mul, Nat.add_mul]
  omega
theorem eb_rk_add (hnc : nc ≤ 4) (hn : n ≤ 6) (hs : ∀ j, j < 24 → s j ≤ 99) (k : Nat) : eb_rk s mo nc n 0 (k + 1) nc = eb_rk s mo nc n 0 k nc + eb_rk s mo nc n k (k + 1) nc := by
  unfold eb_rk
  rw [← eb_NS_add]
  refine eb_NS_cg fun c hc => ?_
  rw [← eb_NS_add]
  exact eb_NS_cg fun b hb => eb_dk_add hc hb hn (hs _ (by omega)) k
theorem eb_rk_0 (k : Nat) : eb_rk s mo nc n k k nc = 0 := by
  unfold eb_rk
  have h1 : ∀ c, eb_NS (eb_dk s mo nc n k k c) n = 0 := fun c => by
    have : ∀ i, eb_NS (eb_dk s mo nc n k k c) i = 0 := fun i => by
      induction i with
      | zero => rfl
      | succ i ih =>
        show eb_NS (eb_dk s mo nc n k k c) i + eb_dk s mo nc n k k c i = 0
        rw [ih]
        unfold eb_dk
        omega
    exact this n
  have : ∀ i, eb_NS (fun c => eb_NS (eb_dk s mo nc n k k c) n) i = 0 := fun i => by
    induction i with
    | zero => rfl
    | succ i ih =>
      show eb_NS (fun c => eb_NS (eb_dk s mo nc n k k c) n) i + eb_NS (eb_dk s mo nc n k k i) n = 0
      rw [ih, h1]
  exact this nc
/-- the class's loops -/
theorem eb_weeksA {z : ea_M} (x : Nat) (hx : x ≤ 60) (hnc : nc ≤ 4) (hn : n ≤ 6) (hs : ∀ j, j < 24 → s j ≤ 99) (hmo : ∀ b, b < n → mo b ≤ 5) (e8 : z 2 8 = nI n) (e0 : z 8 0 = nI nc) (e7 : ∀ b, b < n → z 7 b = nI (mo b)) (e9 : ∀ j, j < 24 → z 9 j = nI (s j)) :
    eb_W (ea_loop (f_X11_weeks_s16 (nI x)) ea_fuel (0, 0, z)) (fun t => t.1 = nI (eb_rk s mo nc n 0 x nc) ∧ (∀ r, r ≠ 9 → t.2 r = z r) ∧ (∀ j, j < 24 → t.2 9 j = nI (eb_tk s mo nc n x j)) ∧ ∀ j, 24 ≤ j → t.2 9 j = z 9 j) := by
  refine eb_for nc (fun c t => t.1 = nI (eb_rk s mo nc n 0 x c) ∧ t.2.1 = nI c ∧ (∀ r, r ≠ 9 → t.2.2 r = z r) ∧ (∀ j, j < 24 → t.2.2 9 j = nI (eb_vk s mo nc n 0 x c 0 j)) ∧ ∀ j, 24 ≤ j → t.2.2 9 j = z 9 j) ?_ ?_ (by unfold ea_fuel; omega) ⟨rfl, rfl, fun _ _ => rfl, fun j hj => by rw [eb_vk_0, eb_tk_0 hs hj]; exact e9 j hj, fun _ _ => rfl⟩
  · rintro c ⟨t1, t2, mm⟩ hc ⟨g1, g2, g3, g4, g5⟩
    have g1 : t1 = nI (eb_rk s mo nc n 0 x c) := g1
    have g2 : t2 = nI c := g2
    subst g1 g2
    have g3 : ∀ r, r ≠ 9 → mm r = z r := g3
    have g4 : ∀ j, j < 24 → mm 9 j = nI (eb_vk s mo nc n 0 x c 0 j) := g4
    have g5 : ∀ j, 24 ≤ j → mm 9 j = z 9 j := g5
    unfold f_X11_weeks_s16
    refine eb_bdV (w := nI nc) (by show mm 8 0 = _; rw [g3 8 (by decide)]; exact e0) (eb_else (nI_ge hc (by omega)) ?_)
    refine eb_bind (eb_for (Q := fun t => t.1 = nI (eb_rk s mo nc n 0 x (c + 1)) ∧ (∀ r, r ≠ 9 → t.2 r = z r) ∧ (∀ j, j < 24 → t.2 9 j = nI (eb_vk s mo nc n 0 x (c + 1) 0 j)) ∧ ∀ j, 24 ≤ j → t.2 9 j = z 9 j) n (fun b t => t.1 = nI (eb_rk s mo nc n 0 x c + eb_NS (eb_dk s mo nc n 0 x c) b) ∧ t.2.1 = nI b ∧ (∀ r, r ≠ 9 → t.2.2 r = z r) ∧ (∀ j, j < 24 → t.2.2 9 j = nI (eb_vk s mo nc n 0 x c b j)) ∧ ∀ j, 24 ≤ j → t.2.2 9 j = z 9 j) ?_ ?_ (by unfold ea_fuel; omega) ⟨rfl, rfl, g3, g4, g5⟩) fun t ht => eb_some ⟨ht.1, nI_1 c, ht.2⟩
    · rintro b ⟨u1, u2, mb⟩ hb ⟨k1, k2, k3, k4, k5⟩
      have k1 : u1 = nI (eb_rk s mo nc n 0 x c + eb_NS (eb_dk s mo nc n 0 x c) b) := k1
      have k2 : u2 = nI b := k2
      subst k1 k2
      have k3 : ∀ r, r ≠ 9 → mb r = z r := k3
      have k4 : ∀ j, j < 24 → mb 9 j = nI (eb_vk s mo nc n 0 x c b j) := k4
      have k5 : ∀ j, 24 ≤ j → mb 9 j = z 9 j := k5
      have hm := hmo b hb
      have hsj := hs (6 * c + b) (by omega)
      have hxm : x * mo b ≤ 60 * 5 := Nat.mul_le_mul hx hm
      have was : mb 9 (6 * c + b) = nI (s (6 * c + b)) := by
        rw [k4 _ (by omega)]
        rcases eb_vk_at (s := s) (mo := mo) (nc := nc) (n := n) (a := 0) (a' := x) (c := c) (b := b) with q | q
        · rw [q, eb_tk_0 hs (by omega)]
        · omega
      have now : eb_tk s mo nc n x (6 * c + b) = min 99 (s (6 * c + b) + x * mo b) := eb_tk_at hc hb hn
      unfold f_X11_weeks_s33
      refine eb_bdV (w := nI n) (by show mb 2 8 = _; rw [k3 2 (by decide)]; exact e8) (eb_else (nI_ge hb (by omega)) (eb_g b (by omega) (eb_bdV (w := nI (mo b)) (by show mb 7 (Int32.toNatClampNeg (nI b)) = _; rw [nI_clamp (by omega), k3 7 (by decide)]; exact e7 b hb) ?_)))
      dsimp only
      rw [eb_addA (nI x * nI (mo b)) mb (by omega) was (x := eb_tk s mo nc n x (6 * c + b)) (by rw [pk_mul, nI_add, eb_mx0 (by omega), now]), eb_clR, pk_sub (by rw [now]; omega), eb_bdR, nI_add, nI_1]
      refine eb_some ⟨?_, rfl, fun r hr => ?_, fun j hj => ?_, fun j hj => ?_⟩
      · show nI _ = nI (eb_rk s mo nc n 0 x c + (eb_NS (eb_dk s mo nc n 0 x c) b + eb_dk s mo nc n 0 x c b))
        unfold eb_dk
        rw [eb_tk_0 hs (by omega), Nat.add_assoc]
      · show ea_st mb 9 _ _ r = _
        rw [eb_stA _ _ _ hr]
        exact k3 r hr
      · show ea_st mb 9 (6 * c + b) (nI (eb_tk s mo nc n x (6 * c + b))) 9 j = _
        rw [eb_sts, eb_vk_b (by omega)]
        by_cases q : j = 6 * c + b
        · rw [if_pos ⟨rfl, q⟩, if_pos q, q]
        · rw [if_neg (fun y => q y.2), if_neg q]
          exact k4 j hj
      · show ea_st mb 9 _ _ 9 j = _
        rw [eb_stI _ _ _ (by omega)]
        exact k5 j hj
    · rintro ⟨u1, u2, mb⟩ ⟨k1, k2, k3, k4, k5⟩
      have k2 : u2 = nI n := k2
      subst k2
      have k3 : ∀ r, r ≠ 9 → mb r = z r := k3
      unfold f_X11_weeks_s33
      refine eb_bdV (w := nI n) (by show mb 2 8 = _; rw [k3 2 (by decide)]; exact e8) (eb_if (nI_le (Nat.le_refl _) (by omega)) (eb_some ⟨k1, k3, fun j hj => ?_, k5⟩))
      rw [← eb_vk_c]
      exact k4 j hj
  · rintro ⟨u1, u2, mb⟩ ⟨k1, k2, k3, k4, k5⟩
    have k2 : u2 = nI nc := k2
    subst k2
    have k3 : ∀ r, r ≠ 9 → mb r = z r := k3
    unfold f_X11_weeks_s16
    refine eb_bdV (w := nI nc) (by show mb 8 0 = _; rw [k3 8 (by decide)]; exact e0) (eb_if (nI_le (Nat.le_refl _) (by omega)) (eb_some ⟨k1, k3, fun j hj => ?_, k5⟩))
    rw [← eb_vk_N (a := 0) (a' := x)]
    exact k4 j hj
/-- one week of the reference -/
theorem eb_weekM {y : ea_M} (k wk : Nat) (hwk : wk ≤ 9999) (hnc : nc ≤ 4) (hn : n ≤ 6) (hs : ∀ j, j < 24 → s j ≤ 99) (hmo : ∀ b, b < n → mo b ≤ 5) (e0 : y 273 0 = nI n) (e1 : y 273 1 = nI nc) (e5 : y 273 5 = nI wk) (e29 : ∀ b, b < n → y 273 (29 + 4 * b) = nI (mo b)) (e9 : ∀ j, j < 24 → y 273 (50 + j) = nI (eb_tk s mo nc n k j)) :
    eb_W (f_X12_oneWeek y) (fun t => t.1 = nI (eb_rk s mo nc n k (k + 1) nc) ∧ (∀ r, r ≠ 273 → t.2 r = y r) ∧ t.2 273 5 = nI (min 9999 (wk + 1)) ∧ (∀ j, j < 24 → t.2 273 (50 + j) = nI (eb_tk s mo nc n (k + 1) j)) ∧ ∀ j, j ≠ 5 → ¬ (50 ≤ j ∧ j < 74) → t.2 273 j = y 273 j) := by
  unfold f_X12_oneWeek
  refine eb_bind (eb_for (Q := fun t => t.1 = nI (eb_rk s mo nc n k (k + 1) nc) ∧ (∀ r, r ≠ 273 → t.2 r = y r) ∧ (∀ j, j < 24 → t.2 273 (50 + j) = nI (eb_tk s mo nc n (k + 1) j)) ∧ ∀ j, ¬ (50 ≤ j ∧ j < 74) → t.2 273 j = y 273 j) nc (fun c t => t.1 = nI (eb_rk s mo nc n k (k + 1) c) ∧ t.2.1 = nI c ∧ (∀ r, r ≠ 273 → t.2.2 r = y r) ∧ (∀ j, j < 24 → t.2.2 273 (50 + j) = nI (eb_vk s mo nc n k (k + 1) c 0 j)) ∧ ∀ j, ¬ (50 ≤ j ∧ j < 74) → t.2.2 273 j = y 273 j) ?_ ?_ (by unfold ea_fuel; omega) ⟨rfl, rfl, fun _ _ => rfl, fun j hj => by rw [eb_vk_0]; exact e9 j hj, fun _ _ => rfl⟩) fun t ht => ?_
  · rintro c ⟨t1, t2, mm⟩ hc ⟨g1, g2, g3, g4, g5⟩
    have g1 : t1 = nI (eb_rk s mo nc n k (k + 1) c) := g1
    have g2 : t2 = nI c := g2
    subst g1 g2
    have g3 : ∀ r, r ≠ 273 → mm r = y r := g3
    have g4 : ∀ j, j < 24 → mm 273 (50 + j) = nI (eb_vk s mo nc n k (k + 1) c 0 j) := g4
    have g5 : ∀ j, ¬ (50 ≤ j ∧ j < 74) → mm 273 j = y 273 j := g5
    unfold f_X12_oneWeek_s4
    dsimp only
    rw [eb_counsel, eb_clR, g5 1 (by omega), e1, if_neg (nI_ge hc (by omega))]
    refine eb_bind (eb_for (Q := fun t => t.1 = nI (eb_rk s mo nc n k (k + 1) (c + 1)) ∧ (∀ r, r ≠ 273 → t.2 r = y r) ∧ (∀ j, j < 24 → t.2 273 (50 + j) = nI (eb_vk s mo nc n k (k + 1) (c + 1) 0 j)) ∧ ∀ j, ¬ (50 ≤ j ∧ j < 74) → t.2 273 j = y 273 j) n (fun b t => t.1 = nI (eb_rk s mo nc n k (k + 1) c + eb_NS (eb_dk s mo nc n k (k + 1) c) b) ∧ t.2.1 = nI b ∧ (∀ r, r ≠ 273 → t.2.2 r = y r) ∧ (∀ j, j < 24 → t.2.2 273 (50 + j) = nI (eb_vk s mo nc n k (k + 1) c b j)) ∧ ∀ j, ¬ (50 ≤ j ∧ j < 74) → t.2.2 273 j = y 273 j) ?_ ?_ (by unfold ea_fuel; omega) ⟨rfl, rfl, g3, g4, g5⟩) fun t ht => eb_some ⟨ht.1, nI_1 c, ht.2⟩
    · rintro b ⟨u1, u2, mb⟩ hb ⟨k1, k2, k3, k4, k5⟩
      have k1 : u1 = nI (eb_rk s mo nc n k (k + 1) c + eb_NS (eb_dk s mo nc n k (k + 1) c) b) := k1
      have k2 : u2 = nI b := k2
      subst k1 k2
      have k3 : ∀ r, r ≠ 273 → mb r = y r := k3
      have k4 : ∀ j, j < 24 → mb 273 (50 + j) = nI (eb_vk s mo nc n k (k + 1) c b j) := k4
      have k5 : ∀ j, ¬ (50 ≤ j ∧ j < 74) → mb 273 j = y 273 j := k5
      have hm := hmo b hb
      have tk := eb_tk_le (mo := mo) (nc := nc) (n := n) (a := k) hs (show 6 * c + b < 24 by omega)
      have was : mb 273 (50 + 6 * c + b) = nI (eb_tk s mo nc n k (6 * c + b)) := by
        rw [show 50 + 6 * c + b = 50 + (6 * c + b) by omega, k4 _ (by omega)]
        rcases eb_vk_at (s := s) (mo := mo) (nc := nc) (n := n) (a := k) (a' := k + 1) (c := c) (b := b) with q | q
        · rw [q]
        · omega
      have o29 : f_X12_ofBird (nI b) 3 mb = some (nI (mo b), mb) := by
        rw [show (3 : Int32) = nI 3 from rfl, eb_ofBird (by omega), show 26 + 4 * b + 3 = 29 + 4 * b by omega, k5 _ (by omega), e29 b hb]
      have t1 : eb_tk s mo nc n k (6 * c + b) = min 99 (s (6 * c + b) + k * mo b) := eb_tk_at hc hb hn
      have t2 : eb_tk s mo nc n (k + 1) (6 * c + b) = min 99 (s (6 * c + b) + (k + 1) * mo b) := eb_tk_at hc hb hn
      rw [Nat.add_mul] at t2
      have mr : ea_min (nI (mo b)) (99 - nI (eb_tk s mo nc n k (6 * c + b))) = nI (min (mo b) (99 - eb_tk s mo nc n k (6 * c + b))) := by
        rw [show (99 : Int32) - nI (eb_tk s mo nc n k (6 * c + b)) = nI (99 - eb_tk s mo nc n k (6 * c + b)) from pk_sub (a := 99) tk, eb_minN (by omega) (by omega)]
      have nw : eb_tk s mo nc n k (6 * c + b) + min (mo b) (99 - eb_tk s mo nc n k (6 * c + b)) = eb_tk s mo nc n (k + 1) (6 * c + b) := by
        rw [t1, t2]
        omega
      have df : min (mo b) (99 - eb_tk s mo nc n k (6 * c + b)) = eb_dk s mo nc n k (k + 1) c b := by
        unfold eb_dk
        omega
      unfold f_X12_oneWeek_s14
      dsimp only
      rw [eb_birds, eb_clR, k5 0 (by omega), e0, if_neg (nI_ge hb (by omega)), o29, eb_clR, eb_stockOf (by omega), eb_clR, was, mr, eb_bdR, eb_stockAt, eb_clR, eb_gN (by omega) (by decide), eb_bdR, eb_gN (by omega) (by decide), eb_bdR, eb_bdR, nI_clamp (by omega), was, nI_add, nI_add, nw, df, nI_1]
      refine eb_some ⟨?_, rfl, fun r hr => ?_, fun j hj => ?_, fun j hj => ?_⟩
      · show nI _ = nI (eb_rk s mo nc n k (k + 1) c + (eb_NS (eb_dk s mo nc n k (k + 1) c) b + eb_dk s mo nc n k (k + 1) c b))
        rw [Nat.add_assoc]
      · show ea_st mb 273 _ _ r = _
        rw [eb_stA _ _ _ hr]
        exact k3 r hr
      · show ea_st mb 273 (50 + 6 * c + b) (nI (eb_tk s mo nc n (k + 1) (6 * c + b))) 273 (50 + j) = _
        rw [eb_sts, eb_vk_b (by omega)]
        by_cases q : j = 6 * c + b
        · rw [if_pos ⟨rfl, by omega⟩, if_pos q, q]
        · rw [if_neg (by omega), if_neg q]
          exact k4 j hj
      · show ea_st mb 273 _ _ 273 j = _
        rw [eb_stI _ _ _ (by omega)]
        exact k5 j hj
    · rintro ⟨u1, u2, mb⟩ ⟨k1, k2, k3, k4, k5⟩
      have k2 : u2 = nI n := k2
      subst k2
      have k5 : ∀ j, ¬ (50 ≤ j ∧ j < 74) → mb 273 j = y 273 j := k5
      unfold f_X12_oneWeek_s14
      dsimp only
      rw [eb_birds, eb_clR, k5 0 (by omega), e0, if_pos (nI_le (Nat.le_refl _) (by omega))]
      refine eb_some ⟨k1, k3, fun j hj => ?_, k5⟩
      rw [← eb_vk_c]
      exact k4 j hj
  · rintro ⟨u1, u2, mb⟩ ⟨k1, k2, k3, k4, k5⟩
    have k2 : u2 = nI nc := k2
    subst k2
    have k5 : ∀ j, ¬ (50 ≤ j ∧ j < 74) → mb 273 j = y 273 j := k5
    unfold f_X12_oneWeek_s4
    dsimp only
    rw [eb_counsel, eb_clR, k5 1 (by omega), e1, if_pos (nI_le (Nat.le_refl _) (by omega))]
    refine eb_some ⟨k1, k3, fun j hj => ?_, k5⟩
    rw [← eb_vk_N (a := k) (a' := k + 1)]
    exact k4 j hj
  · obtain ⟨t1, t2⟩ := t
    obtain ⟨h1, h2, h3, h4⟩ := ht
    have h1 : t1 = nI (eb_rk s mo nc n k (k + 1) nc) := h1
    have h2 : ∀ r, r ≠ 273 → t2 r = y r := h2
    have h3 : ∀ j, j < 24 → t2 273 (50 + j) = nI (eb_tk s mo nc n (k + 1) j) := h3
    have h4 : ∀ j, ¬ (50 ≤ j ∧ j < 74) → t2 273 j = y 273 j := h4
    refine eb_bdV (w := nI wk) (by show t2 273 5 = _; rw [h4 5 (by omega)]; exact e5) (eb_bdV (w := nI (min 9999 (wk + 1))) (by rw [nI_1]; exact eb_minN (a := 9999) (by decide) (by omega)) (eb_bd (eb_some ⟨h1, fun r hr => ?_, ?_, fun j hj => ?_, fun j q1 q2 => ?_⟩)))
    · show ea_st t2 273 5 _ r = _
      rw [eb_stA _ _ _ hr]
      exact h2 r hr
    · exact eb_st t2 273 5 (nI (min 9999 (wk + 1)))
    · show ea_st t2 273 5 _ 273 (50 + j) = _
      rw [eb_stI _ _ _ (by omega)]
      exact h3 j hj
    · show ea_st t2 273 5 _ 273 j = _
      rw [eb_stI _ _ _ q1]
      exact h4 j q2
end WEEKS
