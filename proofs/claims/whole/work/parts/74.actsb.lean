section ACTSB
variable {m : ea_M} {c c' : Nat → Nat → Int32} {w w' : Nat → Int32}
theorem eb_C1_cg (hc : ∀ j, c' 0 j = c 0 j) (h60 : c' 6 0 = c 6 0) (h61 : c' 6 1 = c 6 1) (h12 : c' 12 0 = c 12 0) (hw : ∀ j, j < 13 → w' j = w j) (h : eb_C1 c w) : eb_C1 c' w' := by
  unfold eb_C1 at h ⊢
  rw [hc, hc, hc, hc, hc, hc, hc, hc, hc, h60, h61, h12, hw 0 (by decide), hw 1 (by decide), hw 2 (by decide), hw 3 (by decide), hw 5 (by decide), hw 6 (by decide), hw 7 (by decide), hw 8 (by decide), hw 9 (by decide), hw 10 (by decide), hw 11 (by decide), hw 12 (by decide)]
  exact h
theorem eb_rel_hi {j : Nat} (h : eb_rel j) : ¬ (50 ≤ j ∧ j < 482) ∧ j ≠ 5 ∧ j ≠ 11 ∧ j ≠ 12 := by
  unfold eb_rel at h
  omega
theorem eb_p_appeal (p : Int32) (h : eb_I m) : eb_P eb_I (f_L_appeal p m) (f_X12_appeal p) := by
  obtain ⟨n, hn, e1, e2, e3⟩ := eb_IK h
  rcases eb_ix (p := p) (x := nI n) rfl (by omega) with hp | ⟨k, hk, rfl⟩
  · refine eb_Pk1 h (k := 1) (v := 0) ?_ ?_ (by decide)
    · simp only [f_L_appeal, f_X11_appeal, eb_needCase, e2, hp, if_false, eb_cx1, if_true]
    · simp only [f_X12_appeal, eb_bdR, eb_noCase p (show (ea_st m 272 0 0) 273 2 = nI n from e1) (by omega), eb_clR, hp, if_false, eb_throwsIf1]
      rfl
  · have hp := eb_ixT hk (show n < 2 ^ 31 by omega)
    have a4 : m 13 k = m 273 (77 + 4 * k) := (h.1.1.2.2.2.2.2.1 k (by rw [e3]; exact hk)).2.2.2.1
    by_cases h0 : m 273 (77 + 4 * k) = 0
    · refine eb_Pk1 h (k := 2) (v := 0) ?_ ?_ (by decide)
      · simp only [f_L_appeal, f_X11_appeal, eb_needCase, e2, hp, and_self, if_true, eb_cx0, eb_gN (show k < 12 by omega) (show 12 < 2147483648 by omega), eb_bdR, nI_clamp (show k < 2 ^ 31 by omega), a4, h0, eb_cx3]
        rfl
      · have o : f_X12_isOpen (nI k) (ea_st m 272 0 0) = some (1, ea_st m 272 0 0) := by
          rw [eb_isOpen (by omega), if_pos (show (ea_st m 272 0 0) 273 (77 + 4 * k) = 0 from h0)]
        simp only [f_X12_appeal, eb_bdR, eb_noCase (nI k) (show (ea_st m 272 0 0) 273 2 = nI n from e1) (by omega), eb_clR, hp, and_self, if_true, eb_throwsIf0, o, eb_throwsIf1]
        rfl
    · unfold f_L_appeal
      refine eb_actP (A := fun z => ea_g (nI k) 12 (ea_bd (ea_st z 13 (Int32.toNatClampNeg (nI k)) 0) fun m6 => some (0, m 273 (77 + 4 * k), m6))) (B := fun y => ea_cl (f_X12_ofCase (nI k) 3 y) fun r13 m12 => ea_cl (f_X12_caseAt (nI k) 3 m12) fun r15 m14 => ea_g r15 2180 (ea_bd (ea_st m14 273 (Int32.toNatClampNeg r15) 0) fun m16 => some (r13, m16))) (m 273 (77 + 4 * k)) (eb_cs m 11 k 0) (eb_ws (m 273) (77 + 4 * k) 0) (m 0 18) h ?_ (fun m1 q1 => ?_) (fun z z1 z2 => ?_) (fun y e => ?_) ?_ (Or.inr ⟨rfl, eb_wsN _ _ (by omega), fun j hj => eb_wsN _ _ (by have := eb_rel_hi hj; omega)⟩)
      · simp only [f_X11_appeal, eb_needCase, e2, hp, and_self, if_true, eb_cx0, eb_gN (show k < 12 by omega) (show 12 < 2147483648 by omega), eb_bdR, nI_clamp (show k < 2 ^ 31 by omega), a4, if_neg h0]
      · have o : f_X12_isOpen (nI k) (ea_st m1 272 0 0) = some (0, ea_st m1 272 0 0) := by
          rw [eb_isOpen (by omega), if_neg (show ¬ (ea_st m1 272 0 0) 273 (77 + 4 * k) = 0 by rw [eb_stA _ _ _ (by decide), q1]; exact h0)]
        simp only [f_X12_appeal, eb_bdR, eb_noCase (nI k) (show (ea_st m1 272 0 0) 273 2 = nI n by rw [eb_stA _ _ _ (by decide), q1]; exact e1) (by omega), eb_clR, hp, and_self, if_true, eb_throwsIf0, o]
      · rw [eb_gN (show k < 12 by omega) (by decide), eb_bdR, nI_clamp (by omega)]
        refine eb_some ⟨rfl, rfl, fun a i hw => ?_, fun i j hi => ?_, ?_⟩
        · show ea_st z 13 k 0 a i = _
          unfold eb_W1 at hw
          rw [eb_stA _ _ _ (by omega)]
        · show ea_st z 13 k 0 (2 + i) j = _
          unfold eb_cs
          rw [eb_sts, z1 _ (by omega) (by omega)]
          by_cases hh : i = 11 ∧ j = k
          · rw [if_pos hh, if_pos ⟨by omega, hh.2⟩]
          · rw [if_neg hh, if_neg (by omega)]
        · show ea_st z 13 k 0 0 18 = _
          rw [eb_stA _ _ _ (by decide)]
          exact z2 18 (by decide) (by decide)
      · rw [show (3 : Int32) = nI 3 from rfl, eb_ofCase (by omega), eb_clR, eb_caseAt, eb_clR, eb_gN (by omega) (by decide), eb_bdR, nI_clamp (by omega), show 74 + 4 * k + 3 = 77 + 4 * k by omega]
        refine eb_some ⟨by show y 273 (77 + 4 * k) = _; rw [e], fun a i hw => ?_, ?_, ?_, ?_⟩
        · show ea_st y 273 (77 + 4 * k) 0 a i = _
          unfold eb_W2 at hw
          rw [eb_sts, if_neg (by omega)]
        · exact congrFun (eb_stA y (77 + 4 * k) 0 (show 272 ≠ 273 by decide)) 0
        · exact congrFun (eb_stA y (77 + 4 * k) 0 (show 287 ≠ 273 by decide)) 0
        · rw [← e]
          exact eb_stw y (77 + 4 * k) 0
      · have w' : ∀ j, j ≠ 77 + 4 * k → eb_ws (m 273) (77 + 4 * k) 0 j = m 273 j := fun j hj => eb_wsN _ _ hj
        have c' : ∀ i j, ¬ (i = 11 ∧ j = k) → eb_cs m 11 k 0 i j = eb_ct m 2 i j := fun i j hj => eb_csN _ _ hj
        obtain ⟨a, b, h3, h4, h5, h6, h7⟩ := h.1.1
        refine ⟨eb_C1_cg (fun j => c' 0 j (by omega)) (c' 6 0 (by omega)) (c' 6 1 (by omega)) (c' 12 0 (by omega)) (fun j _ => w' j (by omega)) a, eb_C2_cg (fun j _ => w' j (by omega)) b, eb_C3_cg (fun j _ => c' 1 j (by omega)) (fun j _ _ => w' j (by omega)) h3, eb_C4_cg (fun i j _ _ _ => c' i j (by omega)) (w' 0 (by omega)) (fun j _ _ => w' j (by omega)) b.1.2 h4, eb_C5_cg (fun j _ => c' 7 j (by omega)) (w' 0 (by omega)) (fun j _ _ => w' j (by omega)) h5, fun j hj => ?_, eb_C7_cg (c' 12 1 (by omega)) (fun j _ => c' 13 j (by omega)) (w' 11 (by omega)) (fun j _ _ => w' j (by omega)) b.2.2.2.2.2.2.2.2.2.2 h7⟩
        rw [eb_k_cg (w' 2 (by omega))] at hj
        obtain ⟨d1, d2, d3, d4, d5, d6, d7⟩ := h6 j hj
        rw [eb_b_cg (w' 0 (by omega)), eb_nc_cg (w' 1 (by omega)), c' 8 j (by omega), c' 9 j (by omega), c' 10 j (by omega), w' (74 + 4 * j) (by omega), w' (75 + 4 * j) (by omega), w' (76 + 4 * j) (by omega)]
        by_cases q1 : j = k
        · subst q1
          rw [eb_csT, eb_wsT]
          exact ⟨d1, d2, d3, rfl, d5, d6, 0, by omega, rfl⟩
        · rw [c' 11 j (by omega), w' (77 + 4 * j) (by omega)]
          exact ⟨d1, d2, d3, d4, d5, d6, d7⟩
/-! stocks -/
theorem eb_addA {n b s x : Nat} (y : Int32) (mm : ea_M) (h : 6 * n + b < 24) (e : mm 9 (6 * n + b) = nI s) (hx : ea_max 0 (ea_min 99 (nI s + y)) = nI x) : f_X1_add 8 (nI n) (nI b) y mm = some (nI x - nI s, ea_st mm 9 (6 * n + b) (nI x)) := by
  unfold f_X1_add
  rw [eb_held 8 h, eb_clR, show mm (8 + 1) (6 * n + b) = nI s from e, eb_bdR, eb_bdR, hx, eb_bdR, show nI n * 6 + nI b = nI (6 * n + b) by show nI n * nI 6 + nI b = _; rw [pk_mul, nI_add, Nat.mul_comm], eb_gN h (by decide), eb_bdR, nI_clamp (by omega)]
theorem eb_minN {a b : Nat} (ha : a < 2 ^ 31) (hb : b < 2 ^ 31) : ea_min (nI a) (nI b) = nI (min a b) := by
  unfold ea_min
  by_cases h : b < a
  · rw [if_pos (nI_lt h ha), show min a b = b by omega]
  · rw [if_neg (nI_nlt (by omega) hb), show min a b = a by omega]
theorem eb_maxN {a b : Nat} (ha : a < 2 ^ 31) (hb : b < 2 ^ 31) : ea_max (nI a) (nI b) = nI (max a b) := by
  unfold ea_max
  by_cases h : a < b
  · rw [if_pos (nI_lt h hb), show max a b = b by omega]
  · rw [if_neg (nI_nlt (by omega) ha), show max a b = a by omega]
theorem eb_mx0 {a : Nat} (ha : a < 2 ^ 31) : ea_max 0 (ea_min 99 (nI a)) = nI (min 99 a) := by
  rw [show (99 : Int32) = nI 99 from rfl, eb_minN (by decide) ha, show (0 : Int32) = nI 0 from rfl, eb_maxN (by decide) (by omega), show max 0 (min 99 a) = min 99 a by omega]
theorem eb_negN {s x : Nat} (h : x ≤ s) : nI s + -nI x = nI (s - x) := by
  rw [← Int32.sub_eq_add_neg, pk_sub h]
/-- a court whose stocks alone have changed -/
theorem eb_C_stk (h : eb_C c w) (hc : ∀ i j, i ≠ 7 → c' i j = c i j) (hw : ∀ j, ¬ (50 ≤ j ∧ j < 74) → w' j = w j) (h5 : ∀ n b, n < 4 → b < 6 → c' 7 (6 * n + b) = w' (50 + 6 * n + b) ∧ eb_rg (w' (50 + 6 * n + b)) 99 ∧ (eb_b w ≤ b → w' (50 + 6 * n + b) = 0)) : eb_C c' w' := by
  obtain ⟨a, b, h3, h4, _, h6, h7⟩ := h
  refine ⟨eb_C1_cg (fun j => hc 0 j (by omega)) (hc 6 0 (by omega)) (hc 6 1 (by omega)) (hc 12 0 (by omega)) (fun j _ => hw j (by omega)) a, eb_C2_cg (fun j _ => hw j (by omega)) b, eb_C3_cg (fun j _ => hc 1 j (by omega)) (fun j _ _ => hw j (by omega)) h3, eb_C4_cg (fun i j _ _ _ => hc i j (by omega)) (hw 0 (by omega)) (fun j _ _ => hw j (by omega)) b.1.2 h4, fun n b hn hb => ?_, eb_C6_cg (fun i j _ _ _ => hc i j (by omega)) (hw 0 (by omega)) (hw 1 (by omega)) (hw 2 (by omega)) (fun j _ _ => hw j (by omega)) b.2.2.1.2 h6, eb_C7_cg (hc 12 1 (by omega)) (fun j _ => hc 13 j (by omega)) (hw 11 (by omega)) (fun j _ _ => hw j (by omega)) b.2.2.2.2.2.2.2.2.2.2 h7⟩
  rw [eb_b_cg (hw 0 (by omega))]
  exact h5 n b hn hb
/-- stocks with two written: the rows of the court, the world -/
def eb_c2s (m : ea_M) (j1 : Nat) (v1 : Int32) (j2 : Nat) (v2 : Int32) : Nat → Nat → Int32 := fun i j => if i = 7 ∧ j = j2 then v2 else if i = 7 ∧ j = j1 then v1 else m (2 + i) j
def eb_w2s (w : Nat → Int32) (j1 : Nat) (v1 : Int32) (j2 : Nat) (v2 : Int32) : Nat → Int32 := fun j => if j = j2 then v2 else if j = j1 then v1 else w j
theorem eb_c2sE (z m : ea_M) (j1 : Nat) (v1 : Int32) (j2 : Nat) (v2 : Int32) (i j : Nat) (h : z (2 + i) = m (2 + i)) : ea_st (ea_st z 9 j1 v1) 9 j2 v2 (2 + i) j = eb_c2s m j1 v1 j2 v2 i j := by
  unfold eb_c2s
  rw [eb_sts, eb_sts, h]
  by_cases u1 : i = 7 ∧ j = j2
  · rw [if_pos u1, if_pos ⟨by omega, u1.2⟩]
  · rw [if_neg u1, if_neg (by omega)]
    by_cases u2 : i = 7 ∧ j = j1
    · rw [if_pos u2, if_pos ⟨by omega, u2.2⟩]
    · rw [if_neg u2, if_neg (by omega)]
theorem eb_w2sE (y : ea_M) (j1 : Nat) (v1 : Int32) (j2 : Nat) (v2 : Int32) : ea_st (ea_st y 273 j1 v1) 273 j2 v2 273 = eb_w2s (y 273) j1 v1 j2 v2 := by
  funext j
  unfold eb_w2s
  rw [eb_sts, eb_sts]
  by_cases u1 : j = j2
  · rw [if_pos u1, if_pos ⟨rfl, u1⟩]
  · rw [if_neg u1, if_neg (fun z => u1 z.2)]
    by_cases u2 : j = j1
    · rw [if_pos u2, if_pos ⟨rfl, u2⟩]
    · rw [if_neg u2, if_neg (fun z => u2 z.2)]
theorem eb_w2sN {w : Nat → Int32} {j1 j2 j : Nat} (v1 v2 : Int32) (h1 : j ≠ j1) (h2 : j ≠ j2) : eb_w2s w j1 v1 j2 v2 j = w j := by
  unfold eb_w2s
  rw [if_neg h2, if_neg h1]
theorem eb_c2sN {m : ea_M} {j1 j2 i j : Nat} (v1 v2 : Int32) (h1 : i ≠ 7) : eb_c2s m j1 v1 j2 v2 i j = m (2 + i) j := by
  unfold eb_c2s
  rw [if_neg (fun z => h1 z.1), if_neg (fun z => h1 z.1)]
theorem eb_C_2s (h : eb_C (eb_ct m 2) (m 273)) {c d b b' v1 v2 : Nat} (hc : c < 4) (hd : d < 4) (hb : b < eb_b (m 273)) (hb' : b' < eb_b (m 273)) (h1 : v1 ≤ 99) (h2 : v2 ≤ 99) : eb_C (eb_c2s m (6 * c + b) (nI v1) (6 * d + b') (nI v2)) (eb_w2s (m 273) (50 + 6 * c + b) (nI v1) (50 + 6 * d + b') (nI v2)) := by
  have h6 : eb_b (m 273) ≤ 6 := h.2.1.1.2
  refine eb_C_stk h (fun i j hi => eb_c2sN _ _ hi) (fun j hj => eb_w2sN _ _ (by omega) (by omega)) (fun n k hn hk => ?_)
  obtain ⟨k1, k2, k3⟩ := h.2.2.2.2.1 n k hn hk
  unfold eb_c2s eb_w2s
  by_cases u1 : 6 * n + k = 6 * d + b'
  · rw [if_pos ⟨rfl, u1⟩, if_pos (show 50 + 6 * n + k = 50 + 6 * d + b' by omega)]
    exact ⟨rfl, ⟨v2, h2, rfl⟩, fun z => by omega⟩
  · rw [if_neg (fun z => u1 z.2), if_neg (show ¬ 50 + 6 * n + k = 50 + 6 * d + b' by omega)]
    by_cases u2 : 6 * n + k = 6 * c + b
    · rw [if_pos ⟨rfl, u2⟩, if_pos (show 50 + 6 * n + k = 50 + 6 * c + b by omega)]
      exact ⟨rfl, ⟨v1, h1, rfl⟩, fun z => by omega⟩
    · rw [if_neg (fun z => u2 z.2), if_neg (show ¬ 50 + 6 * n + k = 50 + 6 * c + b by omega)]
      exact ⟨k1, k2, k3⟩
theorem eb_giveA {z : ea_M} {c d b s o x : Nat} (hc : 6 * c + b < 24) (hd : 6 * d + b < 24) (hcd : 6 * c + b ≠ 6 * d + b) (hx : x ≤ s) (hs : s ≤ 99) (ho : o ≤ 99) (s1 : z 9 (6 * c + b) = nI s) (o1 : z 9 (6 * d + b) = nI o) :
    (ea_cl (f_X1_add 8 (nI c) (nI b) (-nI x) z) fun r14 m13 => ea_cl (f_X1_add 8 (nI d) (nI b) (nI x) m13) fun r16 m15 => ea_cl (f_X1_held 8 (nI d) (nI b) m15) fun r18 m17 => some ((0 : Nat), r18, m17)) = some (0, nI (min 99 (o + x)), ea_st (ea_st z 9 (6 * c + b) (nI (s - x))) 9 (6 * d + b) (nI (min 99 (o + x)))) := by
  rw [eb_addA (-nI x) z hc s1 (x := s - x) (by rw [eb_negN hx, eb_mx0 (by omega), show min 99 (s - x) = s - x by omega]), eb_clR, eb_addA (nI x) _ hd (s := o) (by rw [eb_stI _ _ _ hcd.symm]; exact o1) (x := min 99 (o + x)) (by rw [nI_add, eb_mx0 (by omega)]), eb_clR, eb_held 8 hd, eb_clR, show (8 + 1 : Nat) = 9 from rfl, eb_st]
theorem eb_giveB {y : ea_M} {c d b s o x : Nat} (hc : 6 * c + b < 24) (hd : 6 * d + b < 24) (hcd : 6 * c + b ≠ 6 * d + b) (hx : x ≤ s) (hs : s ≤ 99) (ho : o ≤ 99) (s1 : y 273 (50 + 6 * c + b) = nI s) (o1 : y 273 (50 + 6 * d + b) = nI o) :
    (ea_cl (f_X12_stockAt (nI c) (nI b) y) fun r20 m19 => ea_g r20 2180 (ea_bd (m19 273 (Int32.toNatClampNeg r20)) fun x21 => ea_g r20 2180 (ea_bd (ea_st m19 273 (Int32.toNatClampNeg r20) (x21 - nI x)) fun m22 => ea_cl (f_X12_stockAt (nI d) (nI b) m22) fun r24 m23 => ea_cl (f_X12_stockOf (nI d) (nI b) m23) fun r26 m25 => ea_bd (ea_min 99 (r26 + nI x)) fun x27 => ea_g r24 2180 (ea_bd (ea_st m25 273 (Int32.toNatClampNeg r24) x27) fun m28 => ea_cl (f_X12_stockOf (nI d) (nI b) m28) fun r30 m29 => some (r30, m29))))) = some (nI (min 99 (o + x)), ea_st (ea_st y 273 (50 + 6 * c + b) (nI (s - x))) 273 (50 + 6 * d + b) (nI (min 99 (o + x)))) := by
  have v3 : ea_min 99 (nI o + nI x) = nI (min 99 (o + x)) := by rw [nI_add]; exact eb_minN (a := 99) (by decide) (by omega)
  rw [eb_stockAt, eb_clR, eb_gN (by omega) (by decide), eb_bdR, eb_gN (by omega) (by decide), eb_bdR, nI_clamp (by omega), s1, pk_sub hx, eb_stockAt, eb_clR, eb_stockOf (by omega), eb_clR, eb_stI _ _ _ (by omega), o1, eb_bdR, v3, eb_gN (by omega) (by decide), eb_bdR, nI_clamp (by omega), eb_stockOf (by omega), eb_clR, eb_st]
theorem eb_p_give (p q r t : Int32) (h : eb_I m) : eb_P eb_I (f_L_give p q r t m) (f_X12_give p q r t) := by
  obtain ⟨n, hn, e1, e2, e3⟩ := eb_IB h
  obtain ⟨k, hk, f1, f2, f3⟩ := eb_IN h
  have g1 : (ea_st m 272 0 0) 273 1 = nI k := f1
  have g0 : (ea_st m 272 0 0) 273 0 = nI n := e1
  rcases eb_ix (p := p) (x := nI k) rfl (by omega) with hp | ⟨c, hc, rfl⟩
  · refine eb_Pk1 h (k := 1) (v := 0) ?_ ?_ (by decide)
    · simp only [f_L_give, f_X11_give, eb_needCounsel, f2, hp, if_false, eb_cx1, if_true]
    · simp only [f_X12_give, eb_bdR, eb_noCounsel p g1 (by omega), eb_clR, hp, if_false, eb_ne10, f_X12_give_j30, f_X12_give_j35, eb_throwsIf1]
  have hp := eb_ixT hc (show k < 2 ^ 31 by omega)
  rcases eb_ix (p := q) (x := nI k) rfl (by omega) with hq | ⟨d, hd, rfl⟩
  · refine eb_Pk1 h (k := 1) (v := 0) ?_ ?_ (by decide)
    · simp only [f_L_give, f_X11_give, eb_needCounsel, f2, hp, and_self, if_true, eb_cx0, hq, if_false, eb_cx1]
    · simp only [f_X12_give, eb_bdR, eb_noCounsel (nI c) g1 (by omega), eb_noCounsel q g1 (by omega), eb_clR, hp, and_self, if_true, hq, if_false, eb_ne10, f_X12_give_j30, f_X12_give_j35, eb_throwsIf1]
  have hq := eb_ixT hd (show k < 2 ^ 31 by omega)
  rcases eb_ix (p := r) (x := nI n) rfl (by omega) with hr | ⟨b, hb, rfl⟩
  · refine eb_Pk1 h (k := 1) (v := 0) ?_ ?_ (by decide)
    · unfold f_L_give f_X11_give
      rw [eb_needCounsel, f2, if_pos hp, eb_cx0, eb_needCounsel, f2, if_pos hq, eb_cx0, eb_needBird, e2, if_neg hr]
      rfl
    · unfold f_X12_give
      rw [eb_bdR, eb_noCounsel (nI c) g1 (by omega), eb_clR, if_pos hp, if_pos rfl, eb_noCounsel (nI d) g1 (by omega), eb_clR, if_pos hq, if_pos rfl, eb_noBird r g0 (by omega), eb_clR, if_neg hr, if_neg eb_ne10]
      unfold f_X12_give_j30 f_X12_give_j35
      rw [eb_throwsIf1, eb_clR, if_neg eb_ne10]
  have hr := eb_ixT hb (show n < 2 ^ 31 by omega)
  obtain ⟨s1, ⟨s, hs, es⟩, _⟩ := h.1.1.2.2.2.2.1 c b (by omega) (by omega)
  obtain ⟨o1, ⟨o, ho, eo⟩, _⟩ := h.1.1.2.2.2.2.1 d b (by omega) (by omega)
  have s1 : m 9 (6 * c + b) = nI s := Eq.trans s1 es
  have o1 : m 9 (6 * d + b) = nI o := Eq.trans o1 eo
  by_cases hcd : nI c = nI d
  · refine eb_Pk1 h (k := 2) (v := 0) ?_ ?_ (by decide)
    · unfold f_L_give f_X11_give
      rw [eb_needCounsel, f2, if_pos hp, eb_cx0, eb_needCounsel, f2, if_pos hq, eb_cx0, eb_needBird, e2, if_pos hr, eb_cx0, if_pos hcd]
      rfl
    · unfold f_X12_give
      rw [eb_bdR, eb_noCounsel (nI c) g1 (by omega), eb_clR, if_pos hp, if_pos rfl, eb_noCounsel (nI d) g1 (by omega), eb_clR, if_pos hq, if_pos rfl, eb_noBird (nI b) g0 (by omega), eb_clR, if_pos hr, if_pos rfl]
      unfold f_X12_give_j35 f_X12_give_j63 f_X12_give_j68
      rw [eb_throwsIf0, eb_clR, if_pos rfl, if_pos hcd, eb_throwsIf1, eb_clR, if_neg eb_ne10]
  have hcd' : c ≠ d := fun z => hcd (by rw [z])
  by_cases ht : 1 ≤ t ∧ t ≤ nI s
  · obtain ⟨x, hx, ex⟩ := nI_of2 (M := nI s) (n := s) (nI_toInt (by omega)) (Int32.not_lt.mpr (Int32.le_trans (by decide) ht.1)) ht.2
    subst ex
    have hx1 : 1 ≤ x := (nI_leI (a := 1) (b := x) (by decide) (by omega)).mp ht.1
    unfold f_L_give
    refine eb_actP (A := fun z => ea_cl (f_X1_add 8 (nI c) (nI b) (-nI x) z) fun r14 m13 => ea_cl (f_X1_add 8 (nI d) (nI b) (nI x) m13) fun r16 m15 => ea_cl (f_X1_held 8 (nI d) (nI b) m15) fun r18 m17 => some (0, r18, m17)) (B := fun y => ea_cl (f_X12_stockAt (nI c) (nI b) y) fun r20 m19 => ea_g r20 2180 (ea_bd (m19 273 (Int32.toNatClampNeg r20)) fun x21 => ea_g r20 2180 (ea_bd (ea_st m19 273 (Int32.toNatClampNeg r20) (x21 - nI x)) fun m22 => ea_cl (f_X12_stockAt (nI d) (nI b) m22) fun r24 m23 => ea_cl (f_X12_stockOf (nI d) (nI b) m23) fun r26 m25 => ea_bd (ea_min 99 (r26 + nI x)) fun x27 => ea_g r24 2180 (ea_bd (ea_st m25 273 (Int32.toNatClampNeg r24) x27) fun m28 => ea_cl (f_X12_stockOf (nI d) (nI b) m28) fun r30 m29 => some (r30, m29))))) (nI (min 99 (o + x))) (eb_c2s m (6 * c + b) (nI (s - x)) (6 * d + b) (nI (min 99 (o + x)))) (eb_w2s (m 273) (50 + 6 * c + b) (nI (s - x)) (50 + 6 * d + b) (nI (min 99 (o + x)))) (m 0 18) h ?_ (fun m1 q1 => ?_) (fun z z1 z2 => ?_) (fun y e => ?_) ?_ (Or.inr ⟨rfl, ?_, fun j hj => ?_⟩)
    · unfold f_X11_give
      rw [eb_needCounsel, f2, if_pos hp, eb_cx0, eb_needCounsel, f2, if_pos hq, eb_cx0, eb_needBird, e2, if_pos hr, eb_cx0, if_neg hcd, eb_held 8 (show 6 * c + b < 24 by omega), eb_clR, show m (8 + 1) (6 * c + b) = nI s from s1, eb_needWithin, if_pos ht, eb_cx0]
    · have g1 : (ea_st m1 272 0 0) 273 1 = nI k := by rw [eb_stA _ _ _ (by decide), q1]; exact f1
      have g0 : (ea_st m1 272 0 0) 273 0 = nI n := by rw [eb_stA _ _ _ (by decide), q1]; exact e1
      have gs : f_X12_stockOf (nI c) (nI b) (ea_st m1 272 0 0) = some (nI s, ea_st m1 272 0 0) := by
        rw [eb_stockOf (by omega), eb_stA _ _ _ (by decide), q1, es]
      unfold f_X12_give
      rw [eb_bdR, eb_noCounsel (nI c) g1 (by omega), eb_clR, if_pos hp, if_pos rfl, eb_noCounsel (nI d) g1 (by omega), eb_clR, if_pos hq, if_pos rfl, eb_noBird (nI b) g0 (by omega), eb_clR, if_pos hr, if_pos rfl]
      unfold f_X12_give_j35
      rw [eb_throwsIf0, eb_clR, if_pos rfl, if_neg hcd, gs, eb_clR, eb_inW, if_pos ht, eb_clR, if_neg eb_ne10]
      unfold f_X12_give_j68
      rw [eb_throwsIf0, eb_clR, if_pos rfl]
    · rw [eb_giveA (s := s) (o := o) (by omega) (by omega) (by omega) hx hs ho (by rw [z1 9 (by decide) (by omega)]; exact s1) (by rw [z1 9 (by decide) (by omega)]; exact o1)]
      refine eb_some ⟨rfl, rfl, fun a i hw => ?_, fun i j hi => ?_, ?_⟩
      · show ea_st (ea_st z 9 (6 * c + b) (nI (s - x))) 9 (6 * d + b) (nI (min 99 (o + x))) a i = _
        unfold eb_W1 at hw
        rw [eb_stA _ _ _ (by omega), eb_stA _ _ _ (by omega)]
      · show ea_st (ea_st z 9 (6 * c + b) (nI (s - x))) 9 (6 * d + b) (nI (min 99 (o + x))) (2 + i) j = _
        exact eb_c2sE z m _ _ _ _ i j (z1 _ (by omega) (by omega))
      · show ea_st (ea_st z 9 (6 * c + b) (nI (s - x))) 9 (6 * d + b) (nI (min 99 (o + x))) 0 18 = _
        rw [eb_stA _ _ _ (by decide), eb_stA _ _ _ (by decide)]
        exact z2 18 (by decide) (by decide)
    · rw [eb_giveB (s := s) (o := o) (by omega) (by omega) (by omega) hx hs ho (by rw [e]; exact es) (by rw [e]; exact eo)]
      refine eb_some ⟨rfl, fun a i hw => ?_, ?_, ?_, ?_⟩
      · show ea_st (ea_st y 273 (50 + 6 * c + b) (nI (s - x))) 273 (50 + 6 * d + b) (nI (min 99 (o + x))) a i = _
        unfold eb_W2 at hw
        rw [eb_sts, if_neg (by omega), eb_sts, if_neg (by omega)]
      · show ea_st (ea_st y 273 (50 + 6 * c + b) (nI (s - x))) 273 (50 + 6 * d + b) (nI (min 99 (o + x))) 272 0 = _
        rw [eb_stA _ _ _ (by decide), eb_stA _ _ _ (by decide)]
      · show ea_st (ea_st y 273 (50 + 6 * c + b) (nI (s - x))) 273 (50 + 6 * d + b) (nI (min 99 (o + x))) 287 0 = _
        rw [eb_stA _ _ _ (by decide), eb_stA _ _ _ (by decide)]
      · rw [← e]
        exact eb_w2sE y _ _ _ _
    · exact eb_C_2s h.1.1 (by omega) (by omega) (by omega) (by omega) (by omega) (by omega)
    · exact eb_w2sN _ _ (by omega) (by omega)
    · have := eb_rel_hi hj
      exact eb_w2sN _ _ (by omega) (by omega)
  · refine eb_Pk1 h (k := 2) (v := 0) ?_ ?_ (by decide)
    · unfold f_L_give f_X11_give
      rw [eb_needCounsel, f2, if_pos hp, eb_cx0, eb_needCounsel, f2, if_pos hq, eb_cx0, eb_needBird, e2, if_pos hr, eb_cx0, if_neg hcd, eb_held 8 (show 6 * c + b < 24 by omega), eb_clR, show m (8 + 1) (6 * c + b) = nI s from s1, eb_needWithin, if_neg ht]
      rfl
    · have gs : f_X12_stockOf (nI c) (nI b) (ea_st m 272 0 0) = some (nI s, ea_st m 272 0 0) := by
        rw [eb_stockOf (by omega), eb_stA _ _ _ (by decide), es]
      unfold f_X12_give
      rw [eb_bdR, eb_noCounsel (nI c) g1 (by omega), eb_clR, if_pos hp, if_pos rfl, eb_noCounsel (nI d) g1 (by omega), eb_clR, if_pos hq, if_pos rfl, eb_noBird (nI b) g0 (by omega), eb_clR, if_pos hr, if_pos rfl]
      unfold f_X12_give_j35
      rw [eb_throwsIf0, eb_clR, if_pos rfl, if_neg hcd, gs, eb_clR, eb_inW, if_neg ht, eb_clR, if_pos rfl]
      unfold f_X12_give_j63 f_X12_give_j68
      rw [eb_throwsIf1, eb_clR, if_neg eb_ne10]
end ACTSB
