section QUERYC
variable {m : ea_M}
/-! led -/
def eb_le1 (w : Nat → Int32) (p q : Int32) (g : Nat) (s : Int32) : Int32 :=
  if q = 0 then (if w (122 + 6 * g + 2) = p then s + 1 else if w (122 + 6 * g + 3) = p then s + 1 else s)
  else if w (122 + 6 * g + 2) = p then (if w (122 + 6 * g + 4) = 1 then s + 1 else if w (122 + 6 * g + 3) = p then (if w (122 + 6 * g + 4) = 2 then s + 1 else s) else s)
  else if w (122 + 6 * g + 3) = p then (if w (122 + 6 * g + 4) = 2 then s + 1 else s) else s
theorem eb_told (h : eb_I m) {g x : Nat} (hg : g < eb_sz (m 273)) (hx : x < 6) : f_X6_told 14 (nI g) (nI x) m = some (m 273 (122 + 6 * g + x), m) := by
  obtain ⟨n, hn, e1, e2, e3⟩ := eb_IS h
  obtain ⟨t, ht, l1, l2⟩ := h.1.1.2.2.2.2.2.2
  have l3 := l2 g x hg hx
  rw [e3] at hg
  have a1 : nI t + 60 - nI g = nI (t + 60 - g) := by
    show nI t + nI 60 - nI g = _
    rw [nI_add, pk_sub (by omega)]
  have a2 : nI (t + 60 - g) - nI (t + 60 - g) / 60 * 60 = nI ((t + 60 - g) % 60) := pk_rem (d := 60) (by omega) (by decide) (by decide)
  have a3 : nI ((t + 60 - g) % 60) * 6 + nI x = nI ((t + 60 - g) % 60 * 6 + x) := by
    show nI _ * nI 6 + nI x = _
    rw [pk_mul, nI_add]
  simp only [f_X6_told, eb_bdR, e2, nI_pos (show g < 2 ^ 31 by omega), if_false, (eb_ixT hg (show n < 2 ^ 31 by omega)).2, if_true, show m 14 1 = nI t from l1, a1, a2, a3, eb_gN (show (t + 60 - g) % 60 * 6 + x < 360 by omega) (show 360 < 2147483648 by omega), nI_clamp (show (t + 60 - g) % 60 * 6 + x < 2 ^ 31 by omega)]
  rw [show m (14 + 1) ((t + 60 - g) % 60 * 6 + x) = m 273 (122 + 6 * g + x) from l3]
theorem eb_ledA (h : eb_I m) (p q : Int32) : ea_loop (f_X11_led_s19 p q) ea_fuel (0, 0, m) = some (eb_F (eb_le1 (m 273) p q) 0 (eb_sz (m 273)), m) := by
  obtain ⟨n, hn, e1, e2, e3⟩ := eb_IS h
  rw [e3]
  refine eb_loopF n (fun i => (eb_F (eb_le1 (m 273) p q) 0 i, nI i, m)) _ rfl (fun i hi => ?_) ?_ (by unfold ea_fuel; omega)
  · have g1 : ¬ nI n ≤ nI i := nI_ge hi (by omega)
    have t2 : f_X6_told 14 (nI i) 2 m = some (m 273 (122 + 6 * i + 2), m) := eb_told h (x := 2) (by rw [e3]; exact hi) (by decide)
    have t3 : f_X6_told 14 (nI i) 3 m = some (m 273 (122 + 6 * i + 3), m) := eb_told h (x := 3) (by rw [e3]; exact hi) (by decide)
    have t4 : f_X6_told 14 (nI i) 4 m = some (m 273 (122 + 6 * i + 4), m) := eb_told h (x := 4) (by rw [e3]; exact hi) (by decide)
    simp only [f_X11_led_s19, f_X11_led_j53, f_X11_led_j71, f_X11_led_j88, f_X11_led_j112, f_X11_led_j115, e2, g1, if_false, eb_bdR, t2, t3, t4, eb_clR, nI_1, eb_ne10, if_true]
    show _ = some (Sum.inl (eb_le1 (m 273) p q i (eb_F (eb_le1 (m 273) p q) 0 i), nI (i + 1), m))
    unfold eb_le1
    by_cases h0 : q = 0 <;> by_cases h1 : m 273 (122 + 6 * i + 2) = p <;> by_cases h2 : m 273 (122 + 6 * i + 3) = p <;> by_cases h3 : m 273 (122 + 6 * i + 4) = 1 <;> by_cases h4 : m 273 (122 + 6 * i + 4) = 2
    all_goals (first | simp only [if_pos h0] | simp only [if_neg h0] | skip)
    all_goals (first | simp only [if_pos h1] | simp only [if_neg h1] | skip)
    all_goals (first | simp only [if_pos h2] | simp only [if_neg h2] | skip)
    all_goals (first | simp only [if_pos h3] | simp only [if_neg h3] | skip)
    all_goals (first | simp only [if_pos h4] | simp only [if_neg h4] | skip)
  · simp only [f_X11_led_s19, eb_bdR, e2, if_pos (nI_le (Nat.le_refl n) (show n < 2 ^ 31 by omega))]
theorem eb_ledM (h : eb_I m) (p q : Int32) : ea_loop (f_X12_led_s25 p q) ea_fuel (0, 0, m) = some (eb_F (eb_le1 (m 273) p q) 0 (eb_sz (m 273)), m) := by
  obtain ⟨n, hn, e1, e2, e3⟩ := eb_IS h
  rw [e3]
  refine eb_loopF n (fun i => (eb_F (eb_le1 (m 273) p q) 0 i, nI i, m)) _ rfl (fun i hi => ?_) ?_ (by unfold ea_fuel; omega)
  · have g1 : ¬ nI n ≤ nI i := nI_ge hi (by omega)
    have t2 : f_X12_ofLog (nI i) 2 m = some (m 273 (122 + 6 * i + 2), m) := eb_ofLog (b := 2) (by omega) m
    have t3 : f_X12_ofLog (nI i) 3 m = some (m 273 (122 + 6 * i + 3), m) := eb_ofLog (b := 3) (by omega) m
    have t4 : f_X12_ofLog (nI i) 4 m = some (m 273 (122 + 6 * i + 4), m) := eb_ofLog (b := 4) (by omega) m
    simp only [f_X12_led_s25, f_X12_led_j53, f_X12_led_j71, f_X12_led_j89, f_X12_led_j105, f_X12_led_j109, f_X12_led_j110, f_X12_led_j140, f_X12_led_j145, e1, g1, if_false, eb_bdR, t2, t3, t4, eb_clR, nI_1, eb_ne10, if_true, Int32.add_zero]
    show _ = some (Sum.inl (eb_le1 (m 273) p q i (eb_F (eb_le1 (m 273) p q) 0 i), nI (i + 1), m))
    unfold eb_le1
    by_cases h0 : q = 0 <;> by_cases h1 : m 273 (122 + 6 * i + 2) = p <;> by_cases h2 : m 273 (122 + 6 * i + 3) = p <;> by_cases h3 : m 273 (122 + 6 * i + 4) = 1 <;> by_cases h4 : m 273 (122 + 6 * i + 4) = 2
    all_goals (first | simp only [if_pos h0] | simp only [if_neg h0] | skip)
    all_goals (first | simp only [if_pos h1] | simp only [if_neg h1] | skip)
    all_goals (first | simp only [if_pos h2] | simp only [if_neg h2] | skip)
    all_goals (first | simp only [if_pos h3] | simp only [if_neg h3] | skip)
    all_goals (first | simp only [if_pos h4] | simp only [if_neg h4] | skip)
    all_goals (first | done | exact absurd (h3.symm.trans h4) (by decide) | simp only [if_pos h0] | simp only [if_neg h0])
  · simp only [f_X12_led_s25, eb_bdR, e1, if_pos (nI_le (Nat.le_refl n) (show n < 2 ^ 31 by omega))]
theorem eb_p_led (p q : Int32) (_ : eb_bo q) (h : eb_I m) : eb_P eb_I (f_L_led p q m) (f_X12_led p q) := by
  obtain ⟨n, hn, e1, e2, e3⟩ := eb_IB h
  rcases eb_ix (p := p) (x := nI n) rfl (by omega) with hp | ⟨b, hb, rfl⟩
  · refine eb_Pk1 h (k := 1) (v := 0) ?_ ?_ (by decide)
    · simp only [f_L_led, f_X11_led, eb_needBird, e2, hp, if_false, eb_cx1, if_true]
    · simp only [f_X12_led, eb_bdR, eb_noBird p (show (ea_st m 272 0 0) 273 0 = nI n from e1) (by omega), eb_clR, hp, if_false, eb_throwsIf1]
      rfl
  · have hp := eb_ixT hb (show n < 2 ^ 31 by omega)
    refine eb_Pv1 h (v := eb_F (eb_le1 (m 273) (nI b) q) 0 (eb_sz (m 273))) ?_ ?_
    · simp only [f_L_led, f_X11_led, eb_needBird, e2, hp, and_self, if_true, eb_cx0, eb_ledA h, eb_obR, eb_bdR]
    · have h' := eb_I_cg (eb_E2 m (eb_F (eb_le1 (m 273) (nI b) q) 0 (eb_sz (m 273)))) h
      simp only [f_X12_led, eb_bdR, eb_noBird (nI b) (show (ea_st (ea_st m 287 0 (eb_F (eb_le1 (m 273) (nI b) q) 0 (eb_sz (m 273)))) 272 0 0) 273 0 = nI n from e1) (by omega), eb_clR, hp, and_self, if_true, eb_throwsIf0, eb_ledM h' (nI b) q, eb_obR]
      rfl
/-! lasts -/
theorem eb_p_lasts (p q r : Int32) (h : eb_I m) : eb_P eb_I (f_L_lasts p q r m) (f_X12_lasts p q r) := by
  obtain ⟨n, hn, e1, e2, e3⟩ := eb_IB h
  obtain ⟨k, hk, f1, f2, f3⟩ := eb_IN h
  rcases eb_ix (p := p) (x := nI k) rfl (by omega) with hp | ⟨c, hc, rfl⟩
  · refine eb_Pk1 h (k := 1) (v := 0) ?_ ?_ (by decide)
    · simp only [f_L_lasts, f_X11_lasts, eb_needCounsel, f2, hp, if_false, eb_cx1, if_true]
    · simp only [f_X12_lasts, eb_bdR, eb_noCounsel p (show (ea_st m 272 0 0) 273 1 = nI k from f1) (by omega), eb_clR, hp, if_false, f_X12_lasts_j22, f_X12_lasts_j27, eb_throwsIf1]
      rfl
  · have hp := eb_ixT hc (show k < 2 ^ 31 by omega)
    rcases eb_ix (p := q) (x := nI n) rfl (by omega) with hq | ⟨b, hb, rfl⟩
    · refine eb_Pk1 h (k := 1) (v := 0) ?_ ?_ (by decide)
      · simp only [f_L_lasts, f_X11_lasts, eb_needCounsel, f2, hp, and_self, if_true, eb_cx0, eb_needBird, e2, hq, if_false, eb_cx1]
      · simp only [f_X12_lasts, eb_bdR, eb_noCounsel (nI c) (show (ea_st m 272 0 0) 273 1 = nI k from f1) (by omega), eb_noBird q (show (ea_st m 272 0 0) 273 0 = nI n from e1) (by omega), eb_clR, hp, and_self, if_true, hq, if_false, f_X12_lasts_j22, f_X12_lasts_j27, eb_throwsIf1]
        rfl
    · have hq := eb_ixT hb (show n < 2 ^ 31 by omega)
      by_cases hr : 1 ≤ r ∧ r ≤ 99
      · obtain ⟨x, hx, ex⟩ := nI_of2 (M := 99) (n := 99) (by decide) (Int32.not_lt.mpr (Int32.le_trans (by decide) hr.1)) hr.2
        subst ex
        have hx1 : 1 ≤ x := (nI_leI (a := 1) (b := x) (by decide) (by omega)).mp hr.1
        obtain ⟨a1, ⟨s, hs, es⟩, _⟩ := h.1.1.2.2.2.2.1 c b (by omega) (by omega)
        obtain ⟨_, _, _, d1, ⟨o, ho, eo⟩⟩ := h.1.1.2.2.2.1 b (by rw [e3]; exact hb)
        have a1 : m 9 (6 * c + b) = m 273 (50 + 6 * c + b) := a1
        have d1 : m 7 b = m 273 (29 + 4 * b) := d1
        obtain ⟨v, ev⟩ : ∃ v : Int32, v = if x ≤ s then 0 else if o = 0 then -1 else nI ((x - s + o - 1) / o) := ⟨_, rfl⟩
        have hv : ea_loop (f_X11_lasts_s35 (nI b) (nI x) (nI s)) ea_fuel (0, m) = some (if x ≤ s ∨ o ≠ 0 then Sum.inl (0, v, m) else Sum.inr m) := by
          have W : ∃ N : Nat, N ≤ 100 ∧ (∀ i, i < N → s + i * o < x) ∧ ((x ≤ s ∨ o ≠ 0) → N ≤ 99 ∧ x ≤ s + N * o ∧ v = nI N) ∧ (¬ (x ≤ s ∨ o ≠ 0) → N = 100) := by
            by_cases z1 : x ≤ s
            · exact ⟨0, by omega, fun i hi => by omega, fun _ => ⟨by omega, by omega, by rw [ev, if_pos z1]; rfl⟩, fun z => absurd (Or.inl z1) z⟩
            · by_cases z2 : o = 0
              · subst z2
                exact ⟨100, by omega, fun i hi => by omega, fun z => by omega, fun _ => rfl⟩
              · have q1 : (x - s + o - 1) / o * o ≤ x - s + o - 1 := Nat.div_mul_le_self _ _
                have q2 : x - s + o - 1 < ((x - s + o - 1) / o + 1) * o := Nat.lt_mul_of_div_lt (Nat.lt_succ_self _) (by omega)
                rw [Nat.add_mul] at q2
                have q3 : (x - s + o - 1) / o ≤ 99 := by
                  have : (x - s + o - 1) / o < 100 := Nat.div_lt_of_lt_mul (by
                    have : 1 ≤ o := by omega
                    have : 99 * o ≥ 99 := by omega
                    omega)
                  omega
                refine ⟨(x - s + o - 1) / o, by omega, fun i hi => ?_, fun _ => ⟨q3, by omega, by rw [ev, if_neg z1, if_neg z2]⟩, fun z => absurd (Or.inr z2) z⟩
                have q4 : (i + 1) * o ≤ (x - s + o - 1) / o * o := Nat.mul_le_mul_right o hi
                rw [Nat.add_mul] at q4
                omega
          obtain ⟨N, hN, w1, w2, w3⟩ := W
          have st : ∀ i, i < N → f_X11_lasts_s35 (nI b) (nI x) (nI s) (nI i, m) = some (.inl (nI (i + 1), m)) := fun i hi => by
            have io : i * o ≤ 100 * 5 := Nat.mul_le_mul (by omega) ho
            have z := w1 i hi
            simp only [f_X11_lasts_s35, if_neg (show ¬ (99 : Int32) < nI i from nI_nlt (a := 99) (b := i) (by omega) (by omega)), eb_gN (show b < 6 by omega) (show 6 < 2147483648 by omega), eb_bdR, nI_clamp (show b < 2 ^ 31 by omega), d1, eo, pk_mul, nI_add, if_pos (nI_lt z (show x < 2 ^ 31 by omega)), nI_1]
          refine eb_loopF N (fun i => (nI i, m)) _ rfl st ?_ (by unfold ea_fuel; omega)
          by_cases z : x ≤ s ∨ o ≠ 0
          · obtain ⟨k1, k2, k3⟩ := w2 z
            have io : N * o ≤ 100 * 5 := Nat.mul_le_mul (by omega) ho
            simp only [f_X11_lasts_s35, if_neg (show ¬ (99 : Int32) < nI N from nI_nlt (a := 99) (b := N) (by omega) (by omega)), eb_gN (show b < 6 by omega) (show 6 < 2147483648 by omega), eb_bdR, nI_clamp (show b < 2 ^ 31 by omega), d1, eo, pk_mul, nI_add, if_neg (nI_nlt k2 (show s + N * o < 2 ^ 31 by omega)), if_pos z, k3]
          · rw [w3 z, if_neg z]
            rfl
        refine eb_Pv1 h (v := v) ?_ ?_
        · simp only [f_L_lasts, f_X11_lasts, eb_needCounsel, f2, hp, and_self, if_true, eb_cx0, eb_needBird, e2, hq, eb_needWithin, hr, eb_held 8 (show 6 * c + b < 24 by omega), eb_clR, show m (8 + 1) (6 * c + b) = nI s from a1.trans es, hv]
          by_cases z : x ≤ s ∨ o ≠ 0
          · rw [if_pos z]; rfl
          · rw [if_neg z, ev, if_neg (fun y => z (Or.inl y)), if_pos (by omega)]; rfl
        · have g0 : ∀ mm : ea_M, mm 273 = m 273 → f_X12_ofBird (nI b) 3 mm = some (nI o, mm) := fun mm e => by
            rw [show (3 : Int32) = nI 3 from rfl, eb_ofBird (by omega), e, show 26 + 4 * b + 3 = 29 + 4 * b by omega, eo]
          have g1 : ∀ mm : ea_M, mm 273 = m 273 → f_X12_stockOf (nI c) (nI b) mm = some (nI s, mm) := fun mm e => by
            rw [eb_stockOf (by omega), e, es]
          have r273 : (ea_st (ea_st m 287 0 v) 272 0 0) 273 = m 273 := rfl
          simp only [f_X12_lasts, eb_bdR, eb_noCounsel (nI c) (show (ea_st (ea_st m 287 0 v) 272 0 0) 273 1 = nI k from f1) (by omega), eb_noBird (nI b) (show (ea_st (ea_st m 287 0 v) 272 0 0) 273 0 = nI n from e1) (by omega), eb_clR, hp, and_self, if_true, hq, f_X12_lasts_j27, f_X12_lasts_j50, eb_throwsIf0, eb_inW, hr, eb_ne10, if_false, g1 _ r273, g0 _ r273]
          by_cases z1 : x ≤ s
          · rw [if_neg (show ¬ (0 : Int32) < nI x - nI s by rw [eb_lt_iff, pk_sub_toInt (by omega) (by omega), eb_t0]; omega), ev, if_pos z1]
          · rw [if_pos (show (0 : Int32) < nI x - nI s by rw [eb_lt_iff, pk_sub_toInt (by omega) (by omega), eb_t0]; omega)]
            by_cases z2 : o = 0
            · subst z2
              rw [if_pos (show nI 0 = 0 from rfl), ev, if_neg z1, if_pos rfl]
            · have o0 : ¬ nI o = 0 := nI_ne0 (by omega) (by omega)
              have ed : (nI x - nI s + nI o - 1) / nI o = nI ((x - s + o - 1) / o) := by
                rw [pk_sub (by omega), nI_add, show nI (x - s + o) - 1 = nI (x - s + o - 1) from pk_sub (b := 1) (by omega), pk_div (by omega) (by omega) (by omega)]
              rw [if_neg o0]
              unfold ea_gn
              rw [if_neg o0, ed, ev, if_neg z1, if_neg z2]
      · refine eb_Pk1 h (k := 2) (v := 0) ?_ ?_ (by decide)
        · simp only [f_L_lasts, f_X11_lasts, eb_needCounsel, f2, hp, and_self, if_true, eb_cx0, eb_needBird, e2, hq, eb_needWithin, hr, if_false, eb_cx2]
          rfl
        · simp only [f_X12_lasts, eb_bdR, eb_noCounsel (nI c) (show (ea_st m 272 0 0) 273 1 = nI k from f1) (by omega), eb_noBird (nI b) (show (ea_st m 272 0 0) 273 0 = nI n from e1) (by omega), eb_clR, hp, and_self, if_true, hq, f_X12_lasts_j27, f_X12_lasts_j50, eb_throwsIf0, eb_throwsIf1, eb_inW, hr, if_false]
          rfl
end QUERYC
