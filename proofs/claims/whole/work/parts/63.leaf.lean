section LEAF
variable {m : ea_M} {w : Nat → Int32}
theorem eb_le_iff {a b : Int32} : a ≤ b ↔ a.toInt ≤ b.toInt := Int32.le_iff_toInt_le
theorem eb_lt_iff {a b : Int32} : a < b ↔ a.toInt < b.toInt := Int32.lt_iff_toInt_lt
theorem eb_t0 : (0 : Int32).toInt = 0 := by decide
theorem eb_in1 (p : Int32) {n : Nat} (hn : n < 2 ^ 30) : (p < 0 ∨ nI n - 1 < p) ↔ ¬ (0 ≤ p ∧ p < nI n) := by
  have h1 : (nI n - 1).toInt = (n : Int) - 1 := pk_sub_toInt (a := n) (b := 1) hn (by decide)
  rw [eb_lt_iff, eb_lt_iff, eb_le_iff, eb_lt_iff, h1, nI_toInt (by omega), eb_t0]
  omega
theorem eb_in2 (p : Int32) {n : Nat} (hn : n < 2 ^ 30) : (p < 0 ∨ nI n < p) ↔ ¬ (0 ≤ p ∧ p < nI (n + 1)) := by
  rw [eb_lt_iff, eb_lt_iff, eb_le_iff, eb_lt_iff, nI_toInt (by omega), nI_toInt (by omega), eb_t0]
  omega
theorem eb_inN (p : Int32) (m : ea_M) {n : Nat} (hn : n < 2 ^ 30) : f_X12_in p 0 (nI n - 1) m = some (if 0 ≤ p ∧ p < nI n then 1 else 0, m) := by
  rw [eb_in]
  by_cases h : 0 ≤ p ∧ p < nI n
  · rw [if_pos h, if_neg (fun z => (eb_in1 p hn).mp z h)]
  · rw [if_neg h, if_pos ((eb_in1 p hn).mpr h)]
theorem eb_inM (p x : Int32) (m : ea_M) {n : Nat} (hx : x = nI n) (hn : n < 2 ^ 30) : f_X12_in p 0 x m = some (if 0 ≤ p ∧ p < nI (n + 1) then 1 else 0, m) := by
  subst hx
  rw [eb_in]
  by_cases h : 0 ≤ p ∧ p < nI (n + 1)
  · rw [if_pos h, if_neg (fun z => (eb_in2 p hn).mp z h)]
  · rw [if_neg h, if_pos ((eb_in2 p hn).mpr h)]
theorem eb_birds (m : ea_M) : f_X12_birds m = some (m 273 0, m) := rfl
theorem eb_counsel (m : ea_M) : f_X12_counsel m = some (m 273 1, m) := rfl
theorem eb_cases (m : ea_M) : f_X12_cases m = some (m 273 2, m) := rfl
theorem eb_thrown (m : ea_M) : f_X12_thrown m = some (m 272 0, m) := rfl
theorem eb_noBird (p : Int32) {m : ea_M} {n : Nat} (h : m 273 0 = nI n) (hn : n ≤ 12) : f_X12_noBird p m = some (if 0 ≤ p ∧ p < nI n then 0 else 1, m) := by
  unfold f_X12_noBird
  rw [eb_birds, eb_clR, h, eb_inN p m (by omega), eb_clR]
  by_cases q : 0 ≤ p ∧ p < nI n
  · rw [if_pos q, if_pos q]; rfl
  · rw [if_neg q, if_neg q]; rfl
theorem eb_noCounsel (p : Int32) {m : ea_M} {n : Nat} (h : m 273 1 = nI n) (hn : n ≤ 12) : f_X12_noCounsel p m = some (if 0 ≤ p ∧ p < nI n then 0 else 1, m) := by
  unfold f_X12_noCounsel
  rw [eb_counsel, eb_clR, h, eb_inN p m (by omega), eb_clR]
  by_cases q : 0 ≤ p ∧ p < nI n
  · rw [if_pos q, if_pos q]; rfl
  · rw [if_neg q, if_neg q]; rfl
theorem eb_noCase (p : Int32) {m : ea_M} {n : Nat} (h : m 273 2 = nI n) (hn : n ≤ 12) : f_X12_noCase p m = some (if 0 ≤ p ∧ p < nI n then 0 else 1, m) := by
  unfold f_X12_noCase
  rw [eb_cases, eb_clR, h, eb_inN p m (by omega), eb_clR]
  by_cases q : 0 ≤ p ∧ p < nI n
  · rw [if_pos q, if_pos q]; rfl
  · rw [if_neg q, if_neg q]; rfl
theorem eb_noLevel (p : Int32) (m : ea_M) : f_X12_noLevel p m = some (if 0 ≤ p ∧ p < nI 13 then 0 else 1, m) := by
  unfold f_X12_noLevel
  rw [eb_inM p 12 m (n := 12) rfl (by decide), eb_clR]
  by_cases q : 0 ≤ p ∧ p < nI 13
  · rw [if_pos q, if_pos q]; rfl
  · rw [if_neg q, if_neg q]; rfl
theorem eb_noColumn (p : Int32) (m : ea_M) : f_X12_noColumn p m = some (if 0 ≤ p ∧ p < nI 16 then 0 else 1, m) := by
  unfold f_X12_noColumn
  rw [eb_inM p 15 m (n := 15) rfl (by decide), eb_clR]
  by_cases q : 0 ≤ p ∧ p < nI 16
  · rw [if_pos q, if_pos q]; rfl
  · rw [if_neg q, if_neg q]; rfl
theorem eb_ofBird {b x : Nat} (h : 26 + 4 * b + x < 2180) (m : ea_M) : f_X12_ofBird (nI b) (nI x) m = some (m 273 (26 + 4 * b + x), m) := by
  unfold f_X12_ofBird
  rw [eb_bdR, show (26 : Int32) + 4 * nI b + nI x = nI (26 + 4 * b + x) by show nI 26 + nI 4 * nI b + nI x = _; rw [pk_mul, nI_add, nI_add], eb_gN h (by decide), eb_bdR, nI_clamp (by omega)]
theorem eb_stockAt (n b : Nat) (m : ea_M) : f_X12_stockAt (nI n) (nI b) m = some (nI (50 + 6 * n + b), m) := by
  unfold f_X12_stockAt
  rw [eb_bdR, show (50 : Int32) + 6 * nI n + nI b = nI (50 + 6 * n + b) by show nI 50 + nI 6 * nI n + nI b = _; rw [pk_mul, nI_add, nI_add]]
theorem eb_stockOf {n b : Nat} (h : 50 + 6 * n + b < 2180) (m : ea_M) : f_X12_stockOf (nI n) (nI b) m = some (m 273 (50 + 6 * n + b), m) := by
  unfold f_X12_stockOf
  rw [eb_stockAt, eb_clR, eb_gN h (by decide), eb_bdR, nI_clamp (by omega)]
theorem eb_caseAt (n b : Nat) (m : ea_M) : f_X12_caseAt (nI n) (nI b) m = some (nI (74 + 4 * n + b), m) := by
  unfold f_X12_caseAt
  rw [eb_bdR, show (74 : Int32) + 4 * nI n + nI b = nI (74 + 4 * n + b) by show nI 74 + nI 4 * nI n + nI b = _; rw [pk_mul, nI_add, nI_add]]
theorem eb_ofCase {n b : Nat} (h : 74 + 4 * n + b < 2180) (m : ea_M) : f_X12_ofCase (nI n) (nI b) m = some (m 273 (74 + 4 * n + b), m) := by
  unfold f_X12_ofCase
  rw [eb_caseAt, eb_clR, eb_gN h (by decide), eb_bdR, nI_clamp (by omega)]
theorem eb_ofLog {n b : Nat} (h : 122 + 6 * n + b < 2180) (m : ea_M) : f_X12_ofLog (nI n) (nI b) m = some (m 273 (122 + 6 * n + b), m) := by
  unfold f_X12_ofLog
  rw [eb_bdR, show (122 : Int32) + 6 * nI n + nI b = nI (122 + 6 * n + b) by show nI 122 + nI 6 * nI n + nI b = _; rw [pk_mul, nI_add, nI_add], eb_gN h (by decide), eb_bdR, nI_clamp (by omega)]
theorem eb_isOpen {n : Nat} (h : n < 12) (m : ea_M) : f_X12_isOpen (nI n) m = some (if m 273 (77 + 4 * n) = 0 then 1 else 0, m) := by
  unfold f_X12_isOpen
  rw [show (3 : Int32) = nI 3 from rfl, eb_ofCase (by omega), eb_clR, show 74 + 4 * n + 3 = 77 + 4 * n by omega]
  by_cases q : m 273 (77 + 4 * n) = 0
  · rw [if_pos q, if_pos q]
  · rw [if_neg q, if_neg q]
theorem eb_held (a : Nat) {n b : Nat} (h : 6 * n + b < 24) (m : ea_M) : f_X1_held a (nI n) (nI b) m = some (m (a + 1) (6 * n + b), m) := by
  unfold f_X1_held
  rw [eb_bdR, show nI n * 6 + nI b = nI (6 * n + b) by show nI n * nI 6 + nI b = _; rw [pk_mul, nI_add, Nat.mul_comm], eb_gN h (by decide), eb_bdR, nI_clamp (by omega)]
/-- bit k of s -/
def eb_bit (s : Int32) (k : Nat) : Prop := (s >>> (nI k &&& 31)) &&& 1 = 1
theorem eb_bit01 (x : Int32) : x &&& 1 = 0 ∨ x &&& 1 = 1 := by
  obtain ⟨j, hj, e⟩ := pk_andE x 1 (m := 1) (by decide)
  rw [e]
  obtain rfl | rfl : j = 0 ∨ j = 1 := by omega
  · exact Or.inl rfl
  · exact Or.inr rfl
theorem eb_bit0 (s : Int32) (k : Nat) : ((s >>> (nI k &&& 31)) &&& 1 = 0) ↔ ¬ eb_bit s k := by
  unfold eb_bit
  rcases eb_bit01 (s >>> (nI k &&& 31)) with h | h
  · rw [h]; decide
  · rw [h]; decide
theorem eb_hasT {s : Int32} {k : Nat} (h : eb_bit s k) (m : ea_M) : f_X12_has s (nI k) m = some (1, m) := if_pos h
theorem eb_hasF {s : Int32} {k : Nat} (h : ¬ eb_bit s k) (m : ea_M) : f_X12_has s (nI k) m = some (0, m) := if_neg h
theorem eb_needCase (p : Int32) (m : ea_M) : f_X11_needCase p m = some (if 0 ≤ p ∧ p < m 8 1 then 0 else 1, 0, m) := by
  unfold f_X11_needCase ea_bd
  by_cases h1 : p < 0
  · rw [if_pos h1, if_neg (fun z => absurd h1 (Int32.not_lt.mpr z.1))]
  · rw [if_neg h1]
    dsimp only
    by_cases h2 : p < m 8 1
    · rw [if_pos h2, if_pos ⟨Int32.not_lt.mp h1, h2⟩]
    · rw [if_neg h2, if_neg (fun z => h2 z.2)]
theorem eb_needLevel (p a : Int32) (m : ea_M) : f_X11_needLevel p a m = some (if a ≤ p ∧ p < nI 13 then 0 else 1, 0, m) := by
  unfold f_X11_needLevel
  by_cases h1 : p < a
  · rw [if_pos h1, if_neg (fun z => absurd h1 (Int32.not_lt.mpr z.1))]
  · rw [if_neg h1]
    by_cases h2 : p < 13
    · rw [if_pos h2, if_pos ⟨Int32.not_lt.mp h1, h2⟩]
    · rw [if_neg h2, if_neg (fun z => h2 z.2)]
theorem eb_needColumn (p : Int32) (m : ea_M) : f_X11_needColumn p m = some (if 0 ≤ p ∧ p < nI 16 then 0 else 1, 0, m) := by
  unfold f_X11_needColumn
  by_cases h1 : p < 0
  · rw [if_pos h1, if_neg (fun z => absurd h1 (Int32.not_lt.mpr z.1))]
  · rw [if_neg h1]
    by_cases h2 : p < 16
    · rw [if_pos h2, if_pos ⟨Int32.not_lt.mp h1, h2⟩]
    · rw [if_neg h2, if_neg (fun z => h2 z.2)]
theorem eb_needWithin (p a b : Int32) (m : ea_M) : f_X11_needWithin p a b m = some (if a ≤ p ∧ p ≤ b then 0 else 2, 0, m) := by
  unfold f_X11_needWithin
  by_cases h1 : p < a
  · rw [if_pos h1, if_neg (fun z => absurd h1 (Int32.not_lt.mpr z.1))]
  · rw [if_neg h1]
    by_cases h2 : p ≤ b
    · rw [if_pos h2, if_pos ⟨Int32.not_lt.mp h1, h2⟩]
    · rw [if_neg h2, if_neg (fun z => h2 z.2)]
theorem eb_inW (p a b : Int32) (m : ea_M) : f_X12_in p a b m = some (if a ≤ p ∧ p ≤ b then 1 else 0, m) := by
  rw [eb_in]
  by_cases h : a ≤ p ∧ p ≤ b
  · rw [if_pos h, if_neg (fun z => z.elim (fun y => absurd y (Int32.not_lt.mpr h.1)) (fun y => absurd y (Int32.not_lt.mpr h.2)))]
  · rw [if_neg h, if_pos]
    by_cases h1 : p < a
    · exact Or.inl h1
    · exact Or.inr (Int32.not_le.mp fun z => h ⟨Int32.not_lt.mp h1, z⟩)
/-! the two forms of a simple question's end -/
theorem eb_Pk {x : Option (Int32 × ea_M)} {f : ea_M → Option (Int32 × ea_M)} {k v : Int32} {m2 : ea_M} (hI : eb_I m) (hx : x = some (k, m)) (hf : f m = some (v, m2)) (h2 : m2 272 0 = k) (hk : k ≠ 0) (hE : eb_E m m2) : eb_P eb_I x f :=
  eb_of hx (eb_of hf ⟨h2, fun z => absurd z hk, eb_I_cg hE hI⟩)
theorem eb_Pv {x : Option (Int32 × ea_M)} {f : ea_M → Option (Int32 × ea_M)} {v : Int32} {m1 m2 : ea_M} (hI : eb_I m) (hx : x = some (0, m1)) (hf : f m1 = some (v, m2)) (h2 : m2 272 0 = 0) (h3 : m2 287 0 = v) (hE : eb_E m m2) : eb_P eb_I x f :=
  eb_of hx (eb_of hf ⟨h2, fun _ => h3, eb_I_cg hE hI⟩)
theorem eb_E1 (m : ea_M) (k : Int32) : eb_E m (ea_st (ea_st m 272 0 0) 272 0 k) := eb_E_st (eb_E_st (eb_E_refl m) (by unfold eb_Sc; omega) _) (by unfold eb_Sc; omega) _
theorem eb_E2 (m : ea_M) (v : Int32) : eb_E m (ea_st (ea_st m 287 0 v) 272 0 0) := eb_E_st (eb_E_st (eb_E_refl m) (by unfold eb_Sc; omega) _) (by unfold eb_Sc; omega) _
theorem eb_Pk1 {x : Option (Int32 × ea_M)} {f : ea_M → Option (Int32 × ea_M)} {k v : Int32} (hI : eb_I m) (hx : x = some (k, m)) (hf : f m = some (v, ea_st (ea_st m 272 0 0) 272 0 k)) (hk : k ≠ 0) : eb_P eb_I x f :=
  eb_Pk hI hx hf (eb_st _ _ _ _) hk (eb_E1 m k)
theorem eb_Pv1 {x : Option (Int32 × ea_M)} {f : ea_M → Option (Int32 × ea_M)} {v : Int32} (hI : eb_I m) (hx : x = some (0, ea_st m 287 0 v)) (hf : f (ea_st m 287 0 v) = some (v, ea_st (ea_st m 287 0 v) 272 0 0)) : eb_P eb_I x f :=
  eb_Pv hI hx hf (eb_st _ _ _ _) (by rw [eb_stA _ _ _ (by decide), eb_st]) (eb_E2 m v)
/-- not thrown: the value of a question that is answered without writing -/
theorem eb_P2q {x : Option (Int32 × ea_M)} {f : ea_M → Option (Int32 × ea_M)} {v : Int32} {m1 m2 : ea_M} (hI : eb_I m) (hx : x = some (v, m1)) (hf : f m1 = some (v, m2)) (hE : eb_E m m2) : eb_P2 eb_I x f :=
  eb_of hx (eb_of hf ⟨rfl, eb_I_cg hE hI⟩)
/-! what eb_I says of the counts -/
theorem eb_IB (h : eb_I m) : ∃ n, n ≤ 6 ∧ m 273 0 = nI n ∧ m 2 8 = nI n ∧ eb_b (m 273) = n := ⟨_, h.1.1.2.1.1.2, h.1.1.2.1.1.1, h.1.1.1.2.2.2.2.2.2.2.2.1.trans h.1.1.2.1.1.1, rfl⟩
theorem eb_IN (h : eb_I m) : ∃ n, n ≤ 4 ∧ m 273 1 = nI n ∧ m 8 0 = nI n ∧ eb_nc (m 273) = n := ⟨_, h.1.1.2.1.2.1.2, h.1.1.2.1.2.1.1, h.1.1.1.2.2.2.2.2.2.2.2.2.1.trans h.1.1.2.1.2.1.1, rfl⟩
theorem eb_IK (h : eb_I m) : ∃ n, n ≤ 12 ∧ m 273 2 = nI n ∧ m 8 1 = nI n ∧ eb_k (m 273) = n := ⟨_, h.1.1.2.1.2.2.1.2, h.1.1.2.1.2.2.1.1, h.1.1.1.2.2.2.2.2.2.2.2.2.2.1.trans h.1.1.2.1.2.2.1.1, rfl⟩
theorem eb_IS (h : eb_I m) : ∃ n, n ≤ 60 ∧ m 273 11 = nI n ∧ m 14 0 = nI n ∧ eb_sz (m 273) = n := ⟨_, h.1.1.2.1.2.2.2.2.2.2.2.2.2.2, h.1.1.2.1.2.2.2.2.2.2.2.2.2.1, h.1.1.1.2.2.2.2.2.2.2.2.2.2.2.trans h.1.1.2.1.2.2.2.2.2.2.2.2.2.1, rfl⟩
end LEAF
