section HOLDSM
variable {w : Nat → Int32} {m mm : ea_M}
/-- the reference looks at a feather -/
def eb_B (m : ea_M) (w : Nat → Int32) (b : Nat) (lv co br : Int32) : Prop := m 273 = w ∧ m 272 18 = nI b ∧ m 272 19 = lv ∧ m 272 20 = co ∧ m 272 21 = br
theorem eb_isOverE (co : Int32) (m : ea_M) : f_X12_isOver co m = some (if m 273 9 ≤ co ∧ co ≤ m 273 10 then 1 else 0, m) := by
  unfold f_X12_isOver
  rw [eb_bdR, eb_bdR, eb_inW, eb_clR]
  by_cases q : m 273 9 ≤ co ∧ co ≤ m 273 10
  · rw [if_pos q]; rfl
  · rw [if_neg q]; rfl
theorem eb_fact01 (w : Nat → Int32) (b lv co br : Int32) : (eb_fact w b lv co br 6 = 0 ∨ eb_fact w b lv co br 6 = 1) ∧ (eb_fact w b lv co br 7 = 0 ∨ eb_fact w b lv co br 7 = 1) := by
  refine ⟨?_, ?_⟩
  · show (if w 8 / 2 < lv then (1 : Int32) else 0) = 0 ∨ (if w 8 / 2 < lv then (1 : Int32) else 0) = 1
    by_cases q : w 8 / 2 < lv
    · rw [if_pos q]; exact Or.inr rfl
    · rw [if_neg q]; exact Or.inl rfl
  · show (if w 9 ≤ co ∧ co ≤ w 10 then (1 : Int32) else 0) = 0 ∨ (if w 9 ≤ co ∧ co ≤ w 10 then (1 : Int32) else 0) = 1
    by_cases q : w 9 ≤ co ∧ co ≤ w 10
    · rw [if_pos q]; exact Or.inr rfl
    · rw [if_neg q]; exact Or.inl rfl
theorem eb_factM {b f : Nat} {lv co br n : Int32} (h : eb_B m w b lv co br) (hb : b < 6) (hf : f < 8) : f_X12_factOf (nI f) n m = some (eb_fact w (nI b) lv co br f, m) := by
  obtain ⟨h0, h1, h2, h3, h4⟩ := h
  obtain rfl | rfl | rfl | rfl | rfl | rfl | rfl | rfl : f = 0 ∨ f = 1 ∨ f = 2 ∨ f = 3 ∨ f = 4 ∨ f = 5 ∨ f = 6 ∨ f = 7 := by omega
  · show some (m 272 18, m) = some (nI b, m)
    rw [h1]
  · show some (m 272 19, m) = some (lv, m)
    rw [h2]
  · show some (m 272 20, m) = some (co, m)
    rw [h3]
  · show ea_cl (f_X12_ofBird (m 272 18) 1 m) (fun r6 m5 => some (r6, m5)) = some (w (27 + 4 * (nI b).toNatClampNeg), m)
    rw [h1, show (1 : Int32) = nI 1 from rfl, eb_ofBird (by omega), eb_clR, nI_clamp (by omega), h0, show 26 + 4 * b + 1 = 27 + 4 * b by omega]
  · show some (m 273 6, m) = some (w 6, m)
    rw [h0]
  · show some (m 272 21, m) = some (br, m)
    rw [h4]
  · show (if m 272 19 ≤ m 273 8 / 2 then some ((0 : Int32), m) else some (1, m)) = some (if w 8 / 2 < lv then 1 else 0, m)
    rw [h2, h0]
    by_cases q : lv ≤ w 8 / 2
    · rw [if_pos q, if_neg (Int32.not_lt.mpr q)]
    · rw [if_neg q, if_pos (Int32.not_le.mp q)]
  · show ea_cl (f_X12_isOver (m 272 20) m) (fun r13 m12 => if r13 = 0 then some ((0 : Int32), m12) else some (1, m12)) = some (if w 9 ≤ co ∧ co ≤ w 10 then 1 else 0, m)
    rw [h3, eb_isOverE, eb_clR, h0]
    by_cases q : w 9 ≤ co ∧ co ≤ w 10
    · rw [if_pos q]; rfl
    · rw [if_neg q]; rfl
theorem eb_mt_1 {t : Bool} {T : List Bool} {V : List Int32} (h : eb_mt (t :: T) V) : ∃ v V2, V = v :: V2 ∧ (t = true → v = 0 ∨ v = 1) ∧ eb_mt T V2 := by
  match V, h with
  | v :: V2, h => exact ⟨v, V2, rfl, h.1, h.2⟩
/-- one step of the reference -/
theorem eb_holdsM1 {k i s b : Nat} {sg lv co br : Int32} {T T' : List Bool} {V : List Int32} (hk : k < 12) (hi : i < s) (hs : s ≤ 400) (hB : eb_B mm w b lv co br) (hb : b < 6) (e4 : w (486 + 4 * k) = nI s) (hsg : eb_sg sg (w (531 + 2 * i)) (w (532 + 2 * i))) (h1 : eb_t1 (w (531 + 2 * i)) T = some T') (hm : eb_mt T V) (hr : eb_sm (mm 280) V) (hV : V.length ≤ 31) :
    ∃ mm', f_X12_holdsLine_s20 (nI (483 + 4 * k)) (nI V.length, nI i, mm) = some (.inl (nI (eb_e1 (eb_fact w (nI b) lv co br) (w (531 + 2 * i)) (w (532 + 2 * i)) V).length, nI (i + 1), mm')) ∧ (∀ r, r ≠ 280 → mm' r = mm r) ∧ eb_sm (mm' 280) (eb_e1 (eb_fact w (nI b) lv co br) (w (531 + 2 * i)) (w (532 + 2 * i)) V) ∧ (eb_e1 (eb_fact w (nI b) lv co br) (w (531 + 2 * i)) (w (532 + 2 * i)) V).length ≤ 31 := by
  have hTV := eb_mt_len T V hm
  have a1 : nI (483 + 4 * k) + 3 = nI (486 + 4 * k) := by
    rw [show (3 : Int32) = nI 3 from rfl, nI_add, show 483 + 4 * k + 3 = 486 + 4 * k by omega]
  have a2 : (531 : Int32) + 2 * nI i = nI (531 + 2 * i) := by
    show nI 531 + nI 2 * nI i = _
    rw [pk_mul, nI_add]
  have a3 : nI (531 + 2 * i) + 1 = nI (532 + 2 * i) := by
    rw [nI_1, show 531 + 2 * i + 1 = 532 + 2 * i by omega]
  obtain ⟨h0, hB'⟩ := hB
  have push : ∀ (x X n : Int32), w (531 + 2 * i) = X → w (532 + 2 * i) = n → ¬ 8 < X → f_X12_factOf X n mm = some (x, mm) → V.length < 31 → ∃ mm', f_X12_holdsLine_s20 (nI (483 + 4 * k)) (nI V.length, nI i, mm) = some (.inl (nI (x :: V).length, nI (i + 1), mm')) ∧ (∀ r, r ≠ 280 → mm' r = mm r) ∧ eb_sm (mm' 280) (x :: V) ∧ (x :: V).length ≤ 31 := fun x X n eX en h8 hf hx => by
    refine ⟨ea_st mm 280 V.length x, ?_, fun r hr => eb_stA _ _ _ hr, ⟨eb_st _ _ _ _, eb_sm_cg V (fun j hj => eb_stI _ _ _ (by omega)) hr⟩, by simp only [List.length_cons]; omega⟩
    unfold f_X12_holdsLine_s20 f_X12_holdsLine_j253
    dsimp only
    rw [a1, eb_gN (by omega) (by decide), eb_bdR, nI_clamp (by omega), h0, e4, if_neg (nI_ge hi (by omega)), a2, eb_bdR, eb_gN (by omega) (by decide), eb_bdR, nI_clamp (by omega), eX, if_neg h8, eb_bdR, a3, eb_gN (by omega) (by decide), eb_bdR, nI_clamp (by omega), en, hf, eb_clR, eb_gN (by omega) (by decide), eb_bdR, nI_clamp (by omega), nI_1, nI_1]
    rfl
  rcases hsg with ⟨v, hv, e1, e2, e3⟩ | ⟨f, hf, e1, e2, e3⟩ | ⟨o, h9, h14, e1, e2, e3⟩
  · have l := eb_t1_len h1 (by rw [e2]; decide)
    have e : eb_e1 (eb_fact w (nI b) lv co br) (nI 8) (nI v) V = nI v :: V := rfl
    have p := push (nI v) (nI 8) (nI v) e2 e3 (by decide) rfl (by omega)
    rw [e2, e3, e]
    exact p
  · obtain ⟨s1, s2, s3, s4, s5⟩ := eb_sgF f hf
    have l := eb_t1_len h1 (by rw [e2]; exact s4)
    have e : eb_e1 (eb_fact w (nI b) lv co br) (nI f) 0 V = eb_fact w (nI b) lv co br f :: V := by
      unfold eb_e1
      rw [if_pos s4, if_neg s5, nI_clamp (by omega)]
    have p := push (eb_fact w (nI b) lv co br f) (nI f) 0 e2 e3 (Int32.not_lt.mpr s4) (eb_factM ⟨h0, hB'⟩ hb hf) (by omega)
    rw [e2, e3, e]
    exact p
  · have n8 : ¬ nI o ≤ 8 := nI_ge (b := o) (a := 8) (by omega) (by omega)
    have n8' : 8 < nI o := Int32.not_le.mp n8
    rw [e2] at h1
    have pre : f_X12_holdsLine_s20 (nI (483 + 4 * k)) (nI V.length, nI i, mm) = (if nI o = 12 then ea_g (nI V.length - 1) 400 (ea_bd (mm 280 (Int32.toNatClampNeg (nI V.length - 1))) fun x6 => ea_g (nI V.length - 1) 400 (ea_bd (ea_st mm 280 (Int32.toNatClampNeg (nI V.length - 1)) (1 - x6)) fun m7 => f_X12_holdsLine_j253 (nI (483 + 4 * k)) (nI V.length) (nI i) m7))
        else ea_g ((nI V.length + (-1)) - 1) 400 (ea_bd (mm 280 (Int32.toNatClampNeg ((nI V.length + (-1)) - 1))) fun x11 => ea_g (nI V.length + (-1)) 400 (ea_bd (mm 280 (Int32.toNatClampNeg (nI V.length + (-1)))) fun x12 =>
          if nI o = 10 then (if x12 ≤ x11 then f_X12_holdsLine_j218 (nI (483 + 4 * k)) (nI V.length + (-1)) (nI i) (nI o) x11 x12 0 mm else f_X12_holdsLine_j218 (nI (483 + 4 * k)) (nI V.length + (-1)) (nI i) (nI o) x11 x12 1 mm)
          else if nI o = 11 then (if x11 ≤ x12 then f_X12_holdsLine_j218 (nI (483 + 4 * k)) (nI V.length + (-1)) (nI i) (nI o) x11 x12 0 mm else f_X12_holdsLine_j218 (nI (483 + 4 * k)) (nI V.length + (-1)) (nI i) (nI o) x11 x12 1 mm)
          else if nI o = 13 then (if (x11 + x12) = 2 then f_X12_holdsLine_j218 (nI (483 + 4 * k)) (nI V.length + (-1)) (nI i) (nI o) x11 x12 1 mm else f_X12_holdsLine_j218 (nI (483 + 4 * k)) (nI V.length + (-1)) (nI i) (nI o) x11 x12 0 mm)
          else if (x11 + x12) ≤ 0 then f_X12_holdsLine_j218 (nI (483 + 4 * k)) (nI V.length + (-1)) (nI i) (nI o) x11 x12 0 mm else f_X12_holdsLine_j218 (nI (483 + 4 * k)) (nI V.length + (-1)) (nI i) (nI o) x11 x12 1 mm))) := by
      unfold f_X12_holdsLine_s20
      dsimp only
      rw [a1, eb_gN (by omega) (by decide), eb_bdR, nI_clamp (by omega), h0, e4, if_neg (nI_ge hi (by omega)), a2, eb_bdR, eb_gN (by omega) (by decide), eb_bdR, nI_clamp (by omega), e2, if_pos n8']
    rw [pre, e2, e3]
    by_cases h12 : o = 12
    · subst h12
      obtain ⟨T2, eT⟩ := eb_t1_12 h1
      subst eT
      obtain ⟨v, V2, eV, hm1, hm2⟩ := eb_mt_1 hm
      subst eV
      · have lV : (v :: V2).length = V2.length + 1 := rfl
        have e : eb_e1 (eb_fact w (nI b) lv co br) (nI 12) 0 (v :: V2) = (1 - v) :: V2 := rfl
        rw [e]
        rw [lV] at hV ⊢
        refine ⟨ea_st mm 280 V2.length (1 - v), ?_, fun r hr => eb_stA _ _ _ hr, ⟨eb_st _ _ _ _, eb_sm_cg V2 (fun j hj => eb_stI _ _ _ (by omega)) hr.2⟩, hV⟩
        unfold f_X12_holdsLine_j253
        rw [if_pos (show nI 12 = 12 from rfl), show nI (V2.length + 1) - 1 = nI V2.length from nI_pred _, eb_gN (by omega) (by decide), eb_bdR, eb_gN (by omega) (by decide), eb_bdR, nI_clamp (by omega), nI_1, show mm 280 V2.length = v from hr.1]
        rfl
    · obtain ⟨t1, t2, T2, eT, hty⟩ := eb_t1_2 h9 h14 h12 h1
      subst eT
      obtain ⟨v1, V1, eV, hm1, hm2⟩ := eb_mt_1 hm
      obtain ⟨v2, V2, eV2, hm3, hm4⟩ := eb_mt_1 hm2
      subst eV2
      subst eV
      · have lV : (v1 :: v2 :: V2).length = V2.length + 2 := rfl
        have n12 : ¬ nI o = 12 := fun z => h12 ((nI_eq (a := o) (b := 12) (by omega) (by decide)).mp z)
        have e : eb_e1 (eb_fact w (nI b) lv co br) (nI o) 0 (v1 :: v2 :: V2) = eb_op (nI o) v2 v1 :: V2 := by
          unfold eb_e1
          rw [if_neg n8, if_neg n12]
        rw [e]
        rw [lV] at hV ⊢
        refine ⟨ea_st mm 280 V2.length (eb_op (nI o) v2 v1), ?_, fun r hr => eb_stA _ _ _ hr, ⟨eb_st _ _ _ _, eb_sm_cg V2 (fun j hj => eb_stI _ _ _ (by omega)) hr.2.2⟩, by simp only [List.length_cons]; omega⟩
        have j2 : ∀ x : Int32, f_X12_holdsLine_j252 (nI (483 + 4 * k)) (nI (V2.length + 1)) (nI i) (nI (V2.length + 1) - 1) x mm = some (.inl (nI (V2.length + 1), nI (i + 1), ea_st mm 280 V2.length x)) := fun x => by
          unfold f_X12_holdsLine_j252 f_X12_holdsLine_j253
          rw [show nI (V2.length + 1) - 1 = nI V2.length from nI_pred _, eb_gN (by omega) (by decide), eb_bdR, nI_clamp (by omega), nI_1]
        have j0 : ∀ c : Int32, f_X12_holdsLine_j218 (nI (483 + 4 * k)) (nI (V2.length + 1)) (nI i) (nI o) v2 v1 c mm = some (.inl (nI (V2.length + 1), nI (i + 1), ea_st mm 280 V2.length (if nI o = 9 then v2 + v1 else if c = 0 then 0 else 1))) := fun c => by
          unfold f_X12_holdsLine_j218
          by_cases q9 : nI o = 9
          · rw [if_pos q9, if_pos q9, j2]
          · rw [if_neg q9, if_neg q9]
            by_cases qc : c = 0
            · rw [if_pos qc, if_pos qc, j2]
            · rw [if_neg qc, if_neg qc, j2]
        rw [if_neg n12, show nI (V2.length + 2) + -1 = nI (V2.length + 1) from pk_m1 _, show nI (V2.length + 1) - 1 = nI V2.length from nI_pred _, eb_gN (by omega) (by decide), eb_bdR, eb_gN (by omega) (by decide), eb_bdR, nI_clamp (by omega), nI_clamp (by omega), show mm 280 V2.length = v2 from hr.2.1, show mm 280 (V2.length + 1) = v1 from hr.1, j0, j0]
        show _ = some (Sum.inl (nI (V2.length + 1), nI (i + 1), ea_st mm 280 V2.length (eb_op (nI o) v2 v1)))
        unfold eb_op
        obtain rfl | rfl | rfl | rfl | rfl : o = 9 ∨ o = 10 ∨ o = 11 ∨ o = 13 ∨ o = 14 := by omega
        · rw [if_neg (show ¬ nI 9 = 10 by decide), if_neg (show ¬ nI 9 = 11 by decide), if_neg (show ¬ nI 9 = 13 by decide), if_pos (show nI 9 = 9 from rfl), if_pos (show nI 9 = 9 from rfl), if_pos (show nI 9 = 9 from rfl)]
          by_cases q : v2 + v1 ≤ 0
          · rw [if_pos q]
          · rw [if_neg q]
        · rw [if_pos (show nI 10 = 10 from rfl), if_neg (show ¬ nI 10 = 9 by decide), if_neg (show ¬ nI 10 = 9 by decide), if_neg (show ¬ nI 10 = 9 by decide)]
          show _ = some (Sum.inl (nI (V2.length + 1), nI (i + 1), ea_st mm 280 V2.length (if v2 < v1 then 1 else 0)))
          by_cases q : v1 ≤ v2
          · rw [if_pos q, if_neg (Int32.not_lt.mpr q), if_pos rfl]
          · rw [if_neg q, if_pos (Int32.not_le.mp q), if_neg eb_ne10]
        · rw [if_neg (show ¬ nI 11 = 10 by decide), if_pos (show nI 11 = 11 from rfl), if_neg (show ¬ nI 11 = 9 by decide), if_neg (show ¬ nI 11 = 9 by decide), if_neg (show ¬ nI 11 = 9 by decide)]
          show _ = some (Sum.inl (nI (V2.length + 1), nI (i + 1), ea_st mm 280 V2.length (if v1 < v2 then 1 else 0)))
          by_cases q : v2 ≤ v1
          · rw [if_pos q, if_neg (Int32.not_lt.mpr q), if_pos rfl]
          · rw [if_neg q, if_pos (Int32.not_le.mp q), if_neg eb_ne10]
        · rw [if_neg (show ¬ nI 13 = 10 by decide), if_neg (show ¬ nI 13 = 11 by decide), if_pos (show nI 13 = 13 from rfl), if_neg (show ¬ nI 13 = 9 by decide), if_neg (show ¬ nI 13 = 9 by decide), if_neg (show ¬ nI 13 = 9 by decide)]
          show _ = some (Sum.inl (nI (V2.length + 1), nI (i + 1), ea_st mm 280 V2.length (if v2 + v1 = 2 then 1 else 0)))
          by_cases q : v2 + v1 = 2
          · rw [if_pos q, if_pos q, if_neg eb_ne10]
          · rw [if_neg q, if_neg q, if_pos rfl]
        · rw [if_neg (show ¬ nI 14 = 10 by decide), if_neg (show ¬ nI 14 = 11 by decide), if_neg (show ¬ nI 14 = 13 by decide), if_neg (show ¬ nI 14 = 9 by decide), if_neg (show ¬ nI 14 = 9 by decide), if_neg (show ¬ nI 14 = 9 by decide)]
          show _ = some (Sum.inl (nI (V2.length + 1), nI (i + 1), ea_st mm 280 V2.length (if 0 < v2 + v1 then 1 else 0)))
          by_cases q : v2 + v1 ≤ 0
          · rw [if_pos q, if_neg (Int32.not_lt.mpr q), if_pos rfl]
          · rw [if_neg q, if_pos (Int32.not_le.mp q), if_neg eb_ne10]
/-- a line holds, for the reference -/
theorem eb_holdsM {k b0 b s len : Nat} {l5 : Nat → Int32} {lv co br : Int32} (hk : k < 12) (hbs : b ≤ s) (hs : s ≤ len) (hl : len ≤ 400) (e3 : w (485 + 4 * k) = nI b) (e4 : w (486 + 4 * k) = nI s) (hsg : ∀ i, i < len → eb_sg (l5 i) (w (531 + 2 * i)) (w (532 + 2 * i))) (hB : eb_B m w b0 lv co br) (hb0 : b0 < 6) (ht : b = s ∨ eb_ty w (s - b) b [] = some [true]) :
    eb_W (f_X12_holdsLine (nI k) m) (fun z => (∀ r, r ≠ 280 → z.2 r = m r) ∧ ((z.1 = 1 ∧ (eb_ev w (eb_fact w (nI b0) lv co br) (s - b) b [] = [] ∨ eb_ev w (eb_fact w (nI b0) lv co br) (s - b) b [] = [1])) ∨ (z.1 = 0 ∧ ¬ (eb_ev w (eb_fact w (nI b0) lv co br) (s - b) b [] = [] ∨ eb_ev w (eb_fact w (nI b0) lv co br) (s - b) b [] = [1])))) := by
  have x1 : (483 : Int32) + 4 * nI k = nI (483 + 4 * k) := by
    show nI 483 + nI 4 * nI k = _
    rw [pk_mul, nI_add]
  have x2 : nI (483 + 4 * k) + 2 = nI (485 + 4 * k) := by
    rw [show (2 : Int32) = nI 2 from rfl, nI_add, show 483 + 4 * k + 2 = 485 + 4 * k by omega]
  have a1 : nI (483 + 4 * k) + 3 = nI (486 + 4 * k) := by
    rw [show (3 : Int32) = nI 3 from rfl, nI_add, show 483 + 4 * k + 3 = 486 + 4 * k by omega]
  unfold f_X12_holdsLine
  rw [x1, eb_bdR, x2, eb_gN (by omega) (by decide), eb_bdR, nI_clamp (by omega), hB.1, e3]
  by_cases hb : b = s
  · subst hb
    have q : f_X12_holdsLine_s20 (nI (483 + 4 * k)) (0, nI b, m) = some (.inr (0, m)) := by
      unfold f_X12_holdsLine_s20
      dsimp only
      rw [a1, eb_gN (by omega) (by decide), eb_bdR, nI_clamp (by omega), hB.1, e4, if_pos (nI_le (Nat.le_refl _) (by omega))]
    rw [show (ea_fuel : Nat) = 99999 + 1 from rfl, eb_loop_inr q, eb_obR, Nat.sub_self]
    exact eb_some ⟨fun _ _ => rfl, Or.inl ⟨rfl, Or.inl rfl⟩⟩
  · have ht : eb_ty w (s - b) b [] = some [true] := by
      rcases ht with z | z
      · exact absurd z hb
      · exact z
    obtain ⟨R, eR⟩ : ∃ R, R = eb_ev w (eb_fact w (nI b0) lv co br) (s - b) b [] := ⟨_, rfl⟩
    rw [← eR]
    refine eb_bind (eb_for (Q := fun z => (∀ r, r ≠ 280 → z.2 r = m r) ∧ ∃ v, R = [v] ∧ (v = 0 ∨ v = 1) ∧ z.1 = 1 ∧ z.2 280 0 = v) (s - b) (fun j t => ∃ T V, t.1 = nI V.length ∧ t.2.1 = nI (b + j) ∧ (∀ r, r ≠ 280 → t.2.2 r = m r) ∧ eb_ty w (s - (b + j)) (b + j) T = some [true] ∧ eb_ev w (eb_fact w (nI b0) lv co br) (s - (b + j)) (b + j) V = R ∧ eb_mt T V ∧ eb_sm (t.2.2 280) V ∧ V.length ≤ 31) ?_ ?_ (by unfold ea_fuel; omega) ⟨[], [], rfl, rfl, fun _ _ => rfl, ht, eR.symm, trivial, trivial, by decide⟩) fun z hz => ?_
    · rintro j ⟨t1, t2, mm⟩ hj ⟨T, V, g1, g2, g3, g4, g5, g6, g7, g8⟩
      have g1 : t1 = nI V.length := g1
      have g2 : t2 = nI (b + j) := g2
      subst g1 g2
      have g3 : ∀ r, r ≠ 280 → mm r = m r := g3
      have g7 : eb_sm (mm 280) V := g7
      rw [show s - (b + j) = s - (b + (j + 1)) + 1 by omega] at g4 g5
      obtain ⟨T', q1, q2⟩ := eb_ty_s g4
      obtain ⟨mm', p1, p2, p3, p4⟩ := eb_holdsM1 (mm := mm) hk (show b + j < s by omega) (by omega) (show eb_B mm w b0 lv co br by unfold eb_B; rw [g3 273 (by decide), g3 272 (by decide)]; exact hB) hb0 e4 (hsg _ (by omega)) q1 g6 g7 g8
      rw [p1]
      obtain ⟨f6, f7⟩ := eb_fact01 w (nI b0) lv co br
      refine eb_some ⟨T', eb_e1 (eb_fact w (nI b0) lv co br) (w (531 + 2 * (b + j))) (w (532 + 2 * (b + j))) V, rfl, rfl, fun r hr => (p2 r hr).trans (g3 r hr), q2, g5, eb_t1e q1 g6 ?_ ?_, p3, p4⟩
      · rintro (z | z)
        · rw [z]; exact f6
        · rw [z]; exact f7
      · exact Decidable.em _
    · rintro ⟨t1, t2, mm⟩ ⟨T, V, g1, g2, g3, g4, g5, g6, g7, g8⟩
      have g1 : t1 = nI V.length := g1
      have g2 : t2 = nI (b + (s - b)) := g2
      subst g1 g2
      have g3 : ∀ r, r ≠ 280 → mm r = m r := g3
      have g7 : eb_sm (mm 280) V := g7
      rw [show s - (b + (s - b)) = 0 by omega] at g4 g5
      have g4 : some T = some [true] := g4
      have g5 : V = R := g5
      cases g4
      unfold f_X12_holdsLine_s20
      dsimp only
      rw [a1, eb_gN (by omega) (by decide), eb_bdR, nI_clamp (by omega), g3 273 (by decide), hB.1, e4, if_pos (nI_le (by omega) (by omega))]
      match V, g5, g6, g7 with
      | [v], g5, g6, g7 => exact eb_some ⟨g3, v, g5.symm, g6.1 rfl, rfl, g7.1⟩
    · obtain ⟨z1, z2⟩ := z
      obtain ⟨h1, v, h2, h3, h4, h5⟩ := hz
      have h4 : z1 = 1 := h4
      subst h4
      have h5 : z2 280 0 = v := h5
      dsimp only
      rw [if_neg eb_ne10, eb_bdR, h5, h2]
      rcases h3 with rfl | rfl
      · rw [if_neg (show ¬ (0 : Int32) = 1 by decide)]
        exact eb_some ⟨h1, Or.inr ⟨rfl, fun z => by rcases z with z | z <;> cases z⟩⟩
      · rw [if_pos rfl]
        exact eb_some ⟨h1, Or.inl ⟨rfl, Or.inr rfl⟩⟩
end HOLDSM
