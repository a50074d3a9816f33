section INV
/-- x is a number up to n -/
def eb_rg (x : Int32) (n : Nat) : Prop := ∃ j, j ≤ n ∧ x = nI j
/-! a court c (14 rows) and a world w: alike, and right -/
def eb_C1 (c : Nat → Nat → Int32) (w : Nat → Int32) : Prop :=
  c 0 0 = w 7 ∧ c 0 1 = w 8 ∧ c 0 2 = w 9 ∧ c 0 3 = w 10 ∧ c 0 4 = w 6 ∧ c 0 5 = w 5 ∧ c 0 6 = w 12 ∧ c 0 7 = w 3 ∧ c 0 8 = w 0 ∧ c 6 0 = w 1 ∧ c 6 1 = w 2 ∧ c 12 0 = w 11
def eb_C2 (w : Nat → Int32) : Prop :=
  (w 0 = nI (eb_b w) ∧ eb_b w ≤ 6) ∧ (w 1 = nI (eb_nc w) ∧ eb_nc w ≤ 4) ∧ (w 2 = nI (eb_k w) ∧ eb_k w ≤ 12) ∧ eb_rg (w 3) 12 ∧ eb_rg (w 5) 9999 ∧ eb_rg (w 6) 23 ∧ eb_rg (w 7) 15 ∧ (∃ t, 1 ≤ t ∧ t ≤ 12 ∧ w 8 = nI t) ∧ (∃ f t, f ≤ t ∧ t ≤ 15 ∧ w 9 = nI f ∧ w 10 = nI t) ∧ w 11 = nI (eb_sz w) ∧ eb_sz w ≤ 60
def eb_C3 (c : Nat → Nat → Int32) (w : Nat → Int32) : Prop := ∀ l, l < 13 → c 1 l = w (13 + l)
def eb_C4 (c : Nat → Nat → Int32) (w : Nat → Int32) : Prop := ∀ b, b < eb_b w → c 2 b = w (26 + 4 * b) ∧ c 3 b = w (27 + 4 * b) ∧ c 4 b = w (28 + 4 * b) ∧ c 5 b = w (29 + 4 * b) ∧ eb_rg (w (29 + 4 * b)) 5
def eb_C5 (c : Nat → Nat → Int32) (w : Nat → Int32) : Prop := ∀ n b, n < 4 → b < 6 → c 7 (6 * n + b) = w (50 + 6 * n + b) ∧ eb_rg (w (50 + 6 * n + b)) 99 ∧ (eb_b w ≤ b → w (50 + 6 * n + b) = 0)
def eb_C6 (c : Nat → Nat → Int32) (w : Nat → Int32) : Prop := ∀ k, k < eb_k w → c 8 k = w (74 + 4 * k) ∧ c 9 k = w (75 + 4 * k) ∧ c 10 k = w (76 + 4 * k) ∧ c 11 k = w (77 + 4 * k) ∧ (∃ f s, f < eb_nc w ∧ s < eb_nc w ∧ f ≠ s ∧ w (74 + 4 * k) = nI f ∧ w (75 + 4 * k) = nI s) ∧ (∃ p, 0 < p ∧ p < 2 ^ eb_b w ∧ w (76 + 4 * k) = nI p) ∧ eb_rg (w (77 + 4 * k)) 4
def eb_C7 (c : Nat → Nat → Int32) (w : Nat → Int32) : Prop := ∃ t, t < 60 ∧ c 12 1 = nI t ∧ ∀ g x, g < eb_sz w → x < 6 → c 13 ((t + 60 - g) % 60 * 6 + x) = w (122 + 6 * g + x)
def eb_C (c : Nat → Nat → Int32) (w : Nat → Int32) : Prop := eb_C1 c w ∧ eb_C2 w ∧ eb_C3 c w ∧ eb_C4 c w ∧ eb_C5 c w ∧ eb_C6 c w ∧ eb_C7 c w
/-- how long the rows of a court are -/
def eb_len (i : Nat) : Nat := [9, 13, 6, 6, 6, 6, 2, 24, 12, 12, 12, 12, 2, 360].getD i 0
variable {c c' : Nat → Nat → Int32} {w w' : Nat → Int32}
theorem eb_b_cg (h : w' 0 = w 0) : eb_b w' = eb_b w := congrArg Int32.toNatClampNeg h
theorem eb_nc_cg (h : w' 1 = w 1) : eb_nc w' = eb_nc w := congrArg Int32.toNatClampNeg h
theorem eb_k_cg (h : w' 2 = w 2) : eb_k w' = eb_k w := congrArg Int32.toNatClampNeg h
theorem eb_sz_cg (h : w' 11 = w 11) : eb_sz w' = eb_sz w := congrArg Int32.toNatClampNeg h
theorem eb_C2_cg (hw : ∀ j, j < 13 → w' j = w j) (h : eb_C2 w) : eb_C2 w' := by
  unfold eb_C2 at h ⊢
  rw [eb_b_cg (hw 0 (by decide)), eb_nc_cg (hw 1 (by decide)), eb_k_cg (hw 2 (by decide)), eb_sz_cg (hw 11 (by decide)), hw 0 (by decide), hw 1 (by decide), hw 2 (by decide), hw 3 (by decide), hw 5 (by decide), hw 6 (by decide), hw 7 (by decide), hw 8 (by decide), hw 9 (by decide), hw 10 (by decide), hw 11 (by decide)]
  exact h
theorem eb_C3_cg (hc : ∀ j, j < 13 → c' 1 j = c 1 j) (hw : ∀ j, 13 ≤ j → j < 26 → w' j = w j) (h : eb_C3 c w) : eb_C3 c' w' := fun l hl => by
  rw [hc l hl, hw _ (by omega) (by omega)]
  exact h l hl
theorem eb_C4_cg (hc : ∀ i j, 2 ≤ i → i ≤ 5 → j < 6 → c' i j = c i j) (h0 : w' 0 = w 0) (hw : ∀ j, 26 ≤ j → j < 50 → w' j = w j) (hb : eb_b w ≤ 6) (h : eb_C4 c w) : eb_C4 c' w' := fun b q => by
  rw [eb_b_cg h0] at q
  rw [hc 2 b (by decide) (by decide) (by omega), hc 3 b (by decide) (by decide) (by omega), hc 4 b (by decide) (by decide) (by omega), hc 5 b (by decide) (by decide) (by omega), hw (26 + 4 * b) (by omega) (by omega), hw (27 + 4 * b) (by omega) (by omega), hw (28 + 4 * b) (by omega) (by omega), hw (29 + 4 * b) (by omega) (by omega)]
  exact h b q
theorem eb_C5_cg (hc : ∀ j, j < 24 → c' 7 j = c 7 j) (h0 : w' 0 = w 0) (hw : ∀ j, 50 ≤ j → j < 74 → w' j = w j) (h : eb_C5 c w) : eb_C5 c' w' := fun n b hn hb => by
  rw [hc _ (by omega), hw (50 + 6 * n + b) (by omega) (by omega), eb_b_cg h0]
  exact h n b hn hb
theorem eb_C6_cg (hc : ∀ i j, 8 ≤ i → i ≤ 11 → j < 12 → c' i j = c i j) (h0 : w' 0 = w 0) (h1 : w' 1 = w 1) (h2 : w' 2 = w 2) (hw : ∀ j, 74 ≤ j → j < 122 → w' j = w j) (hk : eb_k w ≤ 12) (h : eb_C6 c w) : eb_C6 c' w' := fun k q => by
  rw [eb_k_cg h2] at q
  rw [hc 8 k (by decide) (by decide) (by omega), hc 9 k (by decide) (by decide) (by omega), hc 10 k (by decide) (by decide) (by omega), hc 11 k (by decide) (by decide) (by omega), hw (74 + 4 * k) (by omega) (by omega), hw (75 + 4 * k) (by omega) (by omega), hw (76 + 4 * k) (by omega) (by omega), hw (77 + 4 * k) (by omega) (by omega), eb_b_cg h0, eb_nc_cg h1]
  exact h k q
theorem eb_C7_cg (hc1 : c' 12 1 = c 12 1) (hc : ∀ j, j < 360 → c' 13 j = c 13 j) (h0 : w' 11 = w 11) (hw : ∀ j, 122 ≤ j → j < 482 → w' j = w j) (hz : eb_sz w ≤ 60) (h : eb_C7 c w) : eb_C7 c' w' := by
  obtain ⟨t, ht, e, h⟩ := h
  refine ⟨t, ht, hc1.trans e, fun g x hg hx => ?_⟩
  rw [eb_sz_cg h0] at hg
  rw [hc _ (by omega), hw _ (by omega) (by omega)]
  exact h g x hg hx
theorem eb_C_cg (hc : ∀ i j, j < eb_len i → c' i j = c i j) (hw : ∀ j, j < 482 → w' j = w j) (h : eb_C c w) : eb_C c' w' := by
  obtain ⟨h1, h2, h3, h4, h5, h6, h7⟩ := h
  refine ⟨?_, eb_C2_cg (fun j hj => hw j (by omega)) h2, eb_C3_cg (fun j hj => hc 1 j hj) (fun j _ hj => hw j (by omega)) h3, eb_C4_cg ?_ (hw 0 (by decide)) (fun j _ hj => hw j (by omega)) h2.1.2 h4, eb_C5_cg (fun j hj => hc 7 j hj) (hw 0 (by decide)) (fun j _ hj => hw j (by omega)) h5, eb_C6_cg ?_ (hw 0 (by decide)) (hw 1 (by decide)) (hw 2 (by decide)) (fun j _ hj => hw j (by omega)) h2.2.2.1.2 h6, eb_C7_cg (hc 12 1 (by decide)) (fun j hj => hc 13 j hj) (hw 11 (by decide)) (fun j _ hj => hw j (by omega)) h2.2.2.2.2.2.2.2.2.2.2 h7⟩
  · unfold eb_C1 at h1 ⊢
    rw [hc 0 0 (by decide), hc 0 1 (by decide), hc 0 2 (by decide), hc 0 3 (by decide), hc 0 4 (by decide), hc 0 5 (by decide), hc 0 6 (by decide), hc 0 7 (by decide), hc 0 8 (by decide), hc 6 0 (by decide), hc 6 1 (by decide), hc 12 0 (by decide), hw 0 (by decide), hw 1 (by decide), hw 2 (by decide), hw 3 (by decide), hw 5 (by decide), hw 6 (by decide), hw 7 (by decide), hw 8 (by decide), hw 9 (by decide), hw 10 (by decide), hw 11 (by decide), hw 12 (by decide)]
    exact h1
  · intro i j h2 h5 hj
    refine hc i j ?_
    obtain rfl | rfl | rfl | rfl : i = 2 ∨ i = 3 ∨ i = 4 ∨ i = 5 := by omega
    all_goals exact hj
  · intro i j h2 h5 hj
    refine hc i j ?_
    obtain rfl | rfl | rfl | rfl : i = 8 ∨ i = 9 ∨ i = 10 ∨ i = 11 := by omega
    all_goals exact hj
/-! the law: signs of the class, steps of the reference -/
def eb_sg (s st n : Int32) : Prop := (∃ v, v ≤ 999 ∧ s = nI v ∧ st = nI 8 ∧ n = nI v) ∨ (∃ f, f < 8 ∧ s = -1 - nI f ∧ st = nI f ∧ n = 0) ∨ (∃ o, 9 ≤ o ∧ o ≤ 14 ∧ s = 0 - nI o ∧ st = nI o ∧ n = 0)
/-- types: a number false, a yes or no true -/
def eb_t1 (s : Int32) (S : List Bool) : Option (List Bool) :=
  if s = 6 ∨ s = 7 then (if S.length < 31 then some (true :: S) else none)
  else if s ≤ 8 then (if S.length < 31 then some (false :: S) else none)
  else if s = 12 then (match S with | true :: T => some (true :: T) | _ => none)
  else if s = 9 then (match S with | false :: false :: T => some (false :: T) | _ => none)
  else if s = 10 ∨ s = 11 then (match S with | false :: false :: T => some (true :: T) | _ => none)
  else (match S with | true :: true :: T => some (true :: T) | _ => none)
def eb_ty (w : Nat → Int32) : Nat → Nat → List Bool → Option (List Bool)
  | 0, _, S => some S
  | n + 1, i, S => (eb_t1 (w (531 + 2 * i)) S).bind (eb_ty w n (i + 1))
def eb_LR (l : Nat → Nat → Int32) (w : Nat → Int32) : Prop :=
  (w 4 = 0 ∧ l 0 0 = -1 ∧ eb_rg (l 0 1) 400) ∨ (w 4 = 1 ∧ ∃ n len, n ≤ 12 ∧ len ≤ 400 ∧ l 0 0 = nI n ∧ w 482 = nI n ∧ l 0 1 = nI len ∧ (∀ i, i < len → eb_sg (l 5 i) (w (531 + 2 * i)) (w (532 + 2 * i))) ∧
    ∀ k, k < n → l 1 k = w (483 + 4 * k) ∧ eb_rg (w (483 + 4 * k)) 3 ∧ l 2 k = w (484 + 4 * k) ∧ ∃ b s, b ≤ s ∧ s ≤ len ∧ l 3 k = nI b ∧ w (485 + 4 * k) = nI b ∧ l 4 k = nI s ∧ w (486 + 4 * k) = nI s ∧ (b = s ∨ eb_ty w (s - b) b [] = some [true]))
theorem eb_ty_cg (hw : ∀ j, 482 ≤ j → j < 1331 → w' j = w j) (n : Nat) : ∀ (i : Nat) (S : List Bool), i + n ≤ 400 → eb_ty w' n i S = eb_ty w n i S := by
  induction n with
  | zero => intro i S h; rfl
  | succ n ih =>
    intro i S h
    unfold eb_ty
    rw [hw (531 + 2 * i) (by omega) (by omega)]
    cases eb_t1 (w (531 + 2 * i)) S with
    | none => rw [eb_obN, eb_obN]
    | some T => rw [eb_obR, eb_obR, ih (i + 1) T (by omega)]
theorem eb_LR_cg {l l' : Nat → Nat → Int32} (h0 : l' 0 0 = l 0 0) (h1 : l' 0 1 = l 0 1) (hl : ∀ i j, 1 ≤ i → i ≤ 4 → j < 12 → l' i j = l i j) (h5 : ∀ j, nI j < l 0 1 → j < 400 → l' 5 j = l 5 j) (h4 : w' 4 = w 4) (hw : ∀ j, 482 ≤ j → j < 1331 → w' j = w j) (h : eb_LR l w) : eb_LR l' w' := by
  rcases h with ⟨a, b, ln⟩ | ⟨a, n, len, hn, hlen, a0, a1, a2, a3, a4⟩
  · exact Or.inl ⟨h4.trans a, h0.trans b, by rw [h1]; exact ln⟩
  · refine Or.inr ⟨h4.trans a, n, len, hn, hlen, h0.trans a0, (hw 482 (by omega) (by omega)).trans a1, h1.trans a2, fun i hi => ?_, fun k hk => ?_⟩
    · rw [h5 i (by rw [a2]; exact nI_lt hi (by omega)) (by omega), hw (531 + 2 * i) (by omega) (by omega), hw (532 + 2 * i) (by omega) (by omega)]
      exact a3 i hi
    · obtain ⟨b1, b2, b3, b, s, c1, c2, c3, c4, c5, c6, c7⟩ := a4 k hk
      rw [hl 1 k (by omega) (by omega) (by omega), hl 2 k (by omega) (by omega) (by omega), hl 3 k (by omega) (by omega) (by omega), hl 4 k (by omega) (by omega) (by omega), hw (483 + 4 * k) (by omega) (by omega), hw (484 + 4 * k) (by omega) (by omega), hw (485 + 4 * k) (by omega) (by omega), hw (486 + 4 * k) (by omega) (by omega)]
      refine ⟨b1, b2, b3, b, s, c1, c2, c3, c4, c5, c6, ?_⟩
      rw [eb_ty_cg hw _ _ _ (by omega)]
      exact c7
/-! the memory: court, law, image, past, tapes, fault; fates -/
def eb_ct (m : ea_M) (a : Nat) : Nat → Nat → Int32 := fun i j => m (a + i) j
def eb_sl (m : ea_M) (j : Nat) : Nat → Int32 := fun i => m 277 (482 * j + i)
def eb_pa (m : ea_M) : Prop := ∃ q x, q ≤ 12 ∧ x < 12 ∧ m 0 13 = nI q ∧ m 272 7 = nI q ∧ m 0 14 = nI x ∧ ∀ j, j < q → eb_C (eb_ct m (86 + 14 * ((x + 12 - q + j) % 12))) (eb_sl m j) ∧ eb_sl m j 4 = m 273 4
def eb_im (m : ea_M) : Prop := m 0 9 = m 272 6 ∧ (m 0 9 = 0 ∨ m 0 9 = 1 ∧ eb_C (eb_ct m 50) (m 274) ∧ eb_LR (eb_ct m 64) (m 274))
/-- all but the fates -/
def eb_J (m : ea_M) : Prop := eb_C (eb_ct m 2) (m 273) ∧ eb_LR (eb_ct m 16) (m 273) ∧ eb_pa m ∧ eb_im m ∧ eb_T m ∧ m 0 2 = m 272 14
def eb_fa (m : ea_M) : Prop := m 0 18 = 0 ∨ m 0 18 = 1 ∧ ∀ b, b < eb_b (m 273) → eb_FT (m 273) b (eb_ct m (254 + 3 * b))
def eb_I (m : ea_M) : Prop := eb_J m ∧ eb_fa m
end INV
