section HOLDSA
variable {w F : Nat → Int32} {m mm : ea_M}
theorem eb_sgF : ∀ f, f < 8 → ¬ ((-1 : Int32) - nI f ≤ -9) ∧ ((-1 : Int32) - nI f < 0) ∧ (-1 : Int32) - ((-1 : Int32) - nI f) = nI f ∧ nI f ≤ 8 ∧ ¬ nI f = 8 := by decide
theorem eb_joined {o : Nat} (h9 : 9 ≤ o) (h14 : o ≤ 14) (h12 : o ≠ 12) (a b : Int32) (m : ea_M) (hb : 13 ≤ o → (a = 0 ∨ a = 1) ∧ (b = 0 ∨ b = 1)) : f_X7_joined (0 - nI o) a b m = some (eb_op (nI o) a b, m) := by
  have red : ∀ (c : Prop) [Decidable c], (if c then (some (1, m) : Option (Int32 × ea_M)) else some (0, m)) = some (if c then 1 else 0, m) := fun c _ => by
    by_cases q : c
    · rw [if_pos q, if_pos q]
    · rw [if_neg q, if_neg q]
  obtain rfl | rfl | rfl | rfl | rfl : o = 9 ∨ o = 10 ∨ o = 11 ∨ o = 13 ∨ o = 14 := by omega
  · rfl
  · show (if b ≤ a then (some (0, m) : Option (Int32 × ea_M)) else some (1, m)) = some (if a < b then 1 else 0, m)
    by_cases q : b ≤ a
    · rw [if_pos q, if_neg (Int32.not_lt.mpr q)]
    · rw [if_neg q, if_pos (Int32.not_le.mp q)]
  · show (if a ≤ b then (some (0, m) : Option (Int32 × ea_M)) else some (1, m)) = some (if b < a then 1 else 0, m)
    by_cases q : a ≤ b
    · rw [if_pos q, if_neg (Int32.not_lt.mpr q)]
    · rw [if_neg q, if_pos (Int32.not_le.mp q)]
  · obtain ⟨ha, hb2⟩ := hb (by decide)
    clear hb
    rcases ha with rfl | rfl <;> rcases hb2 with rfl | rfl <;> rfl
  · obtain ⟨ha, hb2⟩ := hb (by decide)
    clear hb
    rcases ha with rfl | rfl <;> rcases hb2 with rfl | rfl <;> rfl
theorem eb_t1_len {s : Int32} {T T' : List Bool} (h : eb_t1 s T = some T') (hs : s ≤ 8) : T.length < 31 := by
  unfold eb_t1 at h
  by_cases c1 : s = 6 ∨ s = 7
  · rw [if_pos c1] at h
    by_cases l : T.length < 31
    · exact l
    · rw [if_neg l] at h
      cases h
  · rw [if_neg c1, if_pos hs] at h
    by_cases l : T.length < 31
    · exact l
    · rw [if_neg l] at h
      cases h
theorem eb_t1_12 {T T' : List Bool} (h : eb_t1 (nI 12) T = some T') : ∃ T2, T = true :: T2 := by
  match T, h with
  | true :: T2, _ => exact ⟨T2, rfl⟩
theorem eb_t1_2 {o : Nat} (h9 : 9 ≤ o) (h14 : o ≤ 14) (h12 : o ≠ 12) {T T' : List Bool} (h : eb_t1 (nI o) T = some T') : ∃ t1 t2 T2, T = t1 :: t2 :: T2 ∧ (13 ≤ o → t1 = true ∧ t2 = true) := by
  obtain rfl | rfl | rfl | rfl | rfl : o = 9 ∨ o = 10 ∨ o = 11 ∨ o = 13 ∨ o = 14 := by omega
  · match T, h with
    | false :: false :: T2, _ => exact ⟨_, _, T2, rfl, fun z => by omega⟩
  · match T, h with
    | false :: false :: T2, _ => exact ⟨_, _, T2, rfl, fun z => by omega⟩
  · match T, h with
    | false :: false :: T2, _ => exact ⟨_, _, T2, rfl, fun z => by omega⟩
  · match T, h with
    | true :: true :: T2, _ => exact ⟨_, _, T2, rfl, fun _ => ⟨rfl, rfl⟩⟩
  · match T, h with
    | true :: true :: T2, _ => exact ⟨_, _, T2, rfl, fun _ => ⟨rfl, rfl⟩⟩
/-- one sign of the class -/
theorem eb_holds1 {k i s len : Nat} {T T' : List Bool} {V : List Int32} (hk : k < 12) (hi : i < s) (hs : s ≤ len) (hl : len ≤ 400) (e4 : mm 20 k = nI s) (hsg : eb_sg (mm 21 i) (w (531 + 2 * i)) (w (532 + 2 * i))) (hF : ∀ f, f < 8 → mm 22 f = F f) (h1 : eb_t1 (w (531 + 2 * i)) T = some T') (hm : eb_mt T V) (hr : eb_sm (mm 23) V) (hV : V.length ≤ 31) :
    ∃ mm', f_X7_holds_s9 16 (nI k) (nI V.length, nI i, mm) = some (.inl (nI (eb_e1 F (w (531 + 2 * i)) (w (532 + 2 * i)) V).length, nI (i + 1), mm')) ∧ (∀ r, r ≠ 23 → mm' r = mm r) ∧ eb_sm (mm' 23) (eb_e1 F (w (531 + 2 * i)) (w (532 + 2 * i)) V) ∧ (eb_e1 F (w (531 + 2 * i)) (w (532 + 2 * i)) V).length ≤ 31 := by
  have hTV := eb_mt_len T V hm
  have pre : ∀ X : Int32, mm 21 i = X → f_X7_holds_s9 16 (nI k) (nI V.length, nI i, mm) = (if X ≤ -9 then f_X7_holds_j81 16 (nI k) (nI V.length) (nI i) X mm else if 32 ≤ nI V.length then f_X7_holds_j81 16 (nI k) (nI V.length) (nI i) X mm else if X < 0 then ea_g ((-1) - X) 8 (ea_bd (mm (16 + 6) (Int32.toNatClampNeg ((-1) - X))) fun x22 => f_X7_holds_j74 16 (nI k) (nI V.length) (nI i) (nI V.length) x22 mm) else f_X7_holds_j74 16 (nI k) (nI V.length) (nI i) (nI V.length) X mm) := fun X hX => by
    unfold f_X7_holds_s9
    dsimp only
    rw [eb_gN hk (by decide), eb_bdR, nI_clamp (by omega), show mm (16 + 4) k = nI s from e4, if_neg (nI_ge hi (by omega)), if_neg (show ¬ (400 : Int32) ≤ nI i from nI_ge (b := 400) (by omega) (by decide)), eb_gN (by omega) (by decide), eb_bdR, nI_clamp (by omega), show mm (16 + 5) i = X from hX]
  have push : ∀ x : Int32, V.length < 31 → ∃ mm', f_X7_holds_j74 16 (nI k) (nI V.length) (nI i) (nI V.length) x mm = some (.inl (nI (x :: V).length, nI (i + 1), mm')) ∧ (∀ r, r ≠ 23 → mm' r = mm r) ∧ eb_sm (mm' 23) (x :: V) ∧ (x :: V).length ≤ 31 := fun x hx => by
    refine ⟨ea_st mm 23 V.length x, ?_, fun r hr => eb_stA _ _ _ hr, ⟨eb_st _ _ _ _, eb_sm_cg V (fun j hj => eb_stI _ _ _ (by omega)) hr⟩, by simp only [List.length_cons]; omega⟩
    unfold f_X7_holds_j74 f_X7_holds_j149
    rw [eb_gN (by omega) (by decide), eb_bdR, nI_clamp (by omega), nI_1, nI_1]
    rfl
  rcases hsg with ⟨v, hv, e1, e2, e3⟩ | ⟨f, hf, e1, e2, e3⟩ | ⟨o, h9, h14, e1, e2, e3⟩
  · have l := eb_t1_len h1 (by rw [e2]; decide)
    rw [pre _ e1, e2, e3, if_neg (show ¬ nI v ≤ -9 by rw [eb_le_iff, nI_toInt (by omega), show (-9 : Int32).toInt = -9 by decide]; omega), if_neg (show ¬ (32 : Int32) ≤ nI V.length from nI_ge (b := 32) (by omega) (by decide)), if_neg (nI_pos (by omega))]
    have e : eb_e1 F (nI 8) (nI v) V = nI v :: V := rfl
    rw [e]
    exact push (nI v) (by omega)
  · obtain ⟨s1, s2, s3, s4, s5⟩ := eb_sgF f hf
    have l := eb_t1_len h1 (by rw [e2]; exact s4)
    rw [pre _ e1, e2, e3, if_neg s1, if_neg (show ¬ (32 : Int32) ≤ nI V.length from nI_ge (b := 32) (by omega) (by decide)), if_pos s2, s3, eb_gN hf (by decide), eb_bdR, nI_clamp (by omega), show mm (16 + 6) f = F f from hF f hf]
    have e : eb_e1 F (nI f) 0 V = F f :: V := by
      unfold eb_e1
      rw [if_pos s4, if_neg s5, nI_clamp (by omega)]
    rw [e]
    exact push (F f) (by omega)
  · have s1 : (0 : Int32) - nI o ≤ -9 := by
      obtain rfl | rfl | rfl | rfl | rfl | rfl : o = 9 ∨ o = 10 ∨ o = 11 ∨ o = 12 ∨ o = 13 ∨ o = 14 := by omega
      all_goals decide
    rw [pre _ e1, e2, e3, if_pos s1]
    rw [e2] at h1
    by_cases h12 : o = 12
    · subst h12
      obtain ⟨T2, eT⟩ := eb_t1_12 h1
      subst eT
      match V, hm, hr, hV with
      | v :: V2, hm, hr, hV =>
        have lV : (v :: V2).length = V2.length + 1 := rfl
        have e : eb_e1 F (nI 12) 0 (v :: V2) = (1 - v) :: V2 := rfl
        rw [e]
        rw [lV] at hV ⊢
        refine ⟨ea_st mm 23 V2.length (1 - v), ?_, fun r hr => eb_stA _ _ _ hr, ⟨eb_st _ _ _ _, eb_sm_cg V2 (fun j hj => eb_stI _ _ _ (by omega)) hr.2⟩, hV⟩
        unfold f_X7_holds_j81 f_X7_holds_j149
        rw [if_pos (show (0 : Int32) - nI 12 = -12 by decide), if_neg (show ¬ nI (V2.length + 1) < 1 from nI_nlt (b := 1) (by omega) (by omega)), show nI (V2.length + 1) - 1 = nI V2.length from nI_pred _, eb_gN (by omega) (by decide), eb_bdR, eb_gN (by omega) (by decide), eb_bdR, nI_clamp (by omega), nI_1, show mm (16 + 7) V2.length = v from hr.1]
        rfl
    · obtain ⟨t1, t2, T2, eT, hty⟩ := eb_t1_2 h9 h14 h12 h1
      subst eT
      match V, hm, hr, hV with
      | v1 :: v2 :: V2, hm, hr, hV =>
        have lV : (v1 :: v2 :: V2).length = V2.length + 2 := rfl
        have n8 : ¬ nI o ≤ 8 := nI_ge (b := o) (a := 8) (by omega) (by omega)
        have n12 : ¬ nI o = 12 := fun z => h12 ((nI_eq (a := o) (b := 12) (by omega) (by decide)).mp z)
        have e : eb_e1 F (nI o) 0 (v1 :: v2 :: V2) = eb_op (nI o) v2 v1 :: V2 := by
          unfold eb_e1
          rw [if_neg n8, if_neg n12]
        have m12 : ¬ (0 : Int32) - nI o = -12 := by
          obtain rfl | rfl | rfl | rfl | rfl : o = 9 ∨ o = 10 ∨ o = 11 ∨ o = 13 ∨ o = 14 := by omega
          all_goals decide
        rw [e]
        rw [lV] at hV ⊢
        refine ⟨ea_st mm 23 V2.length (eb_op (nI o) v2 v1), ?_, fun r hr => eb_stA _ _ _ hr, ⟨eb_st _ _ _ _, eb_sm_cg V2 (fun j hj => eb_stI _ _ _ (by omega)) hr.2.2⟩, by simp only [List.length_cons]; omega⟩
        unfold f_X7_holds_j81 f_X7_holds_j114 f_X7_holds_j149
        rw [if_neg m12, if_neg (show ¬ nI (V2.length + 2) < 2 from nI_nlt (b := 2) (by omega) (by omega)), show nI (V2.length + 2) + -1 = nI (V2.length + 1) from pk_m1 _, show nI (V2.length + 1) - 1 = nI V2.length from nI_pred _, eb_gN (by omega) (by decide), eb_bdR, eb_gN (by omega) (by decide), eb_bdR, nI_clamp (by omega), nI_clamp (by omega), show mm (16 + 7) V2.length = v2 from hr.2.1, show mm (16 + 7) (V2.length + 1) = v1 from hr.1, eb_joined h9 h14 h12 v2 v1 mm (fun z => ⟨hm.2.1 (hty z).2, hm.1 (hty z).1⟩), eb_clR, eb_gN (by omega) (by decide), eb_bdR, nI_1]
        rfl
/-- a line holds, for the class -/
theorem eb_holdsA {k b s len : Nat} (hk : k < 12) (hbs : b ≤ s) (hs : s ≤ len) (hl : len ≤ 400) (e3 : m 19 k = nI b) (e4 : m 20 k = nI s) (hsg : ∀ i, i < len → eb_sg (m 21 i) (w (531 + 2 * i)) (w (532 + 2 * i))) (hF : ∀ f, f < 8 → m 22 f = F f) (hF6 : F 6 = 0 ∨ F 6 = 1) (hF7 : F 7 = 0 ∨ F 7 = 1) (ht : b = s ∨ eb_ty w (s - b) b [] = some [true]) :
    eb_W (f_X7_holds 16 (nI k) m) (fun z => (∀ r, r ≠ 23 → z.2 r = m r) ∧ ((z.1 = 1 ∧ (eb_ev w F (s - b) b [] = [] ∨ eb_ev w F (s - b) b [] = [1])) ∨ (z.1 = 0 ∧ ¬ (eb_ev w F (s - b) b [] = [] ∨ eb_ev w F (s - b) b [] = [1])))) := by
  unfold f_X7_holds
  rw [eb_gN hk (by decide), eb_bdR, nI_clamp (by omega), show m (16 + 3) k = nI b from e3]
  by_cases hb : b = s
  · subst hb
    have q : f_X7_holds_s9 16 (nI k) (0, nI b, m) = some (.inr (0, m)) := by
      unfold f_X7_holds_s9
      dsimp only
      rw [eb_gN hk (by decide), eb_bdR, nI_clamp (by omega), show m (16 + 4) k = nI b from e4, if_pos (nI_le (Nat.le_refl _) (by omega))]
    rw [show (ea_fuel : Nat) = 99999 + 1 from rfl, eb_loop_inr q, eb_obR, Nat.sub_self]
    exact eb_some ⟨fun _ _ => rfl, Or.inl ⟨rfl, Or.inl rfl⟩⟩
  · have ht : eb_ty w (s - b) b [] = some [true] := by
      rcases ht with z | z
      · exact absurd z hb
      · exact z
    obtain ⟨R, eR⟩ : ∃ R, R = eb_ev w F (s - b) b [] := ⟨_, rfl⟩
    rw [← eR]
    refine eb_bind (eb_for (Q := fun z => (∀ r, r ≠ 23 → z.2 r = m r) ∧ ∃ v, R = [v] ∧ (v = 0 ∨ v = 1) ∧ z.1 = 1 ∧ z.2 23 0 = v) (s - b) (fun j t => ∃ T V, t.1 = nI V.length ∧ t.2.1 = nI (b + j) ∧ (∀ r, r ≠ 23 → t.2.2 r = m r) ∧ eb_ty w (s - (b + j)) (b + j) T = some [true] ∧ eb_ev w F (s - (b + j)) (b + j) V = R ∧ eb_mt T V ∧ eb_sm (t.2.2 23) V ∧ V.length ≤ 31) ?_ ?_ (by unfold ea_fuel; omega) ⟨[], [], rfl, rfl, fun _ _ => rfl, ht, eR.symm, trivial, trivial, by decide⟩) fun z hz => ?_
    · rintro j ⟨t1, t2, mm⟩ hj ⟨T, V, g1, g2, g3, g4, g5, g6, g7, g8⟩
      have g1 : t1 = nI V.length := g1
      have g2 : t2 = nI (b + j) := g2
      subst g1 g2
      have g3 : ∀ r, r ≠ 23 → mm r = m r := g3
      have g7 : eb_sm (mm 23) V := g7
      rw [show s - (b + j) = s - (b + (j + 1)) + 1 by omega] at g4 g5
      obtain ⟨T', q1, q2⟩ := eb_ty_s g4
      obtain ⟨mm', p1, p2, p3, p4⟩ := eb_holds1 (F := F) hk (show b + j < s by omega) hs hl (by rw [g3 20 (by decide)]; exact e4) (by rw [g3 21 (by decide)]; exact hsg _ (by omega)) (fun f hf => by rw [g3 22 (by decide)]; exact hF f hf) q1 g6 g7 g8
      rw [p1]
      refine eb_some ⟨T', eb_e1 F (w (531 + 2 * (b + j))) (w (532 + 2 * (b + j))) V, rfl, rfl, fun r hr => (p2 r hr).trans (g3 r hr), q2, g5, eb_t1e q1 g6 ?_ ?_, p3, p4⟩
      · rintro (z | z)
        · rw [z]; exact hF6
        · rw [z]; exact hF7
      · exact Decidable.em _
    · rintro ⟨t1, t2, mm⟩ ⟨T, V, g1, g2, g3, g4, g5, g6, g7, g8⟩
      have g1 : t1 = nI V.length := g1
      have g2 : t2 = nI (b + (s - b)) := g2
      subst g1 g2
      have g3 : ∀ r, r ≠ 23 → mm r = m r := g3
      have g7 : eb_sm (mm 23) V := g7
      rw [show s - (b + (s - b)) = 0 by omega] at g4 g5
      have g4 : some T = some [true] := g4
      have g5 : V = R := g5
      cases g4
      unfold f_X7_holds_s9
      dsimp only
      rw [eb_gN hk (by decide), eb_bdR, nI_clamp (by omega), g3 (16 + 4) (by decide), show m (16 + 4) k = nI s from e4, if_pos (nI_le (by omega) (by omega))]
      match V, g5, g6, g7 with
      | [v], g5, g6, g7 => exact eb_some ⟨g3, v, g5.symm, g6.1 rfl, rfl, g7.1⟩
    · obtain ⟨z1, z2⟩ := z
      obtain ⟨h1, v, h2, h3, h4, h5⟩ := hz
      have h4 : z1 = 1 := h4
      subst h4
      have h5 : z2 23 0 = v := h5
      dsimp only
      rw [if_neg eb_ne10, eb_bdR, show z2 (16 + 7) 0 = v from h5, h2]
      rcases h3 with rfl | rfl
      · rw [if_pos rfl]
        exact eb_some ⟨h1, Or.inr ⟨rfl, fun z => by rcases z with z | z <;> cases z⟩⟩
      · rw [if_neg eb_ne10]
        exact eb_some ⟨h1, Or.inl ⟨rfl, Or.inr rfl⟩⟩
end HOLDSA
