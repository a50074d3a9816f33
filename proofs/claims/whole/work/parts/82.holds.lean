section HOLDS
/-- values that fit their types -/
def eb_mt : List Bool → List Int32 → Prop
  | [], [] => True
  | t :: T, v :: V => (t = true → v = 0 ∨ v = 1) ∧ eb_mt T V
  | _, _ => False
/-- a row that holds a stack, its last in slot 0 -/
def eb_sm (r : Nat → Int32) : List Int32 → Prop
  | [] => True
  | v :: V => r V.length = v ∧ eb_sm r V
theorem eb_sm_cg {r r' : Nat → Int32} : ∀ (V : List Int32), (∀ j, j < V.length → r' j = r j) → eb_sm r V → eb_sm r' V
  | [], _, _ => trivial
  | v :: V, h, q => ⟨(h V.length (by simp only [List.length_cons]; omega)).trans q.1, eb_sm_cg V (fun j hj => h j (by simp only [List.length_cons]; omega)) q.2⟩
theorem eb_mt_len : ∀ (T : List Bool) (V : List Int32), eb_mt T V → T.length = V.length
  | [], [], _ => rfl
  | _ :: T, _ :: V, h => by
    simp only [List.length_cons]
    rw [eb_mt_len T V h.2]
  | [], _ :: _, h => h.elim
  | _ :: _, [], h => h.elim
variable {w : Nat → Int32} {F : Nat → Int32}
/-- one step, both of types and of values -/
theorem eb_t1e {s n : Int32} {T T' : List Bool} {V : List Int32} (h : eb_t1 s T = some T') (hm : eb_mt T V) (hF : s = 6 ∨ s = 7 → F s.toNatClampNeg = 0 ∨ F s.toNatClampNeg = 1) (h8 : s = 8 ∨ s ≠ 8) : eb_mt T' (eb_e1 F s n V) := by
  unfold eb_t1 at h
  unfold eb_e1
  by_cases c1 : s = 6 ∨ s = 7
  · rw [if_pos c1] at h
    have c2 : s ≤ 8 := by rcases c1 with rfl | rfl <;> decide
    have c3 : ¬ s = 8 := by rcases c1 with rfl | rfl <;> decide
    by_cases l : T.length < 31
    · rw [if_pos l] at h
      cases h
      rw [if_pos c2, if_neg c3]
      exact ⟨fun _ => hF c1, hm⟩
    · rw [if_neg l] at h
      cases h
  · rw [if_neg c1] at h
    by_cases c2 : s ≤ 8
    · rw [if_pos c2] at h
      by_cases l : T.length < 31
      · rw [if_pos l] at h
        cases h
        rw [if_pos c2]
        exact ⟨(fun z => by cases z), hm⟩
      · rw [if_neg l] at h
        cases h
    · rw [if_neg c2] at h
      rw [if_neg c2]
      by_cases c3 : s = 12
      · rw [if_pos c3] at h
        rw [if_pos c3]
        cases T with
        | nil => cases h
        | cons t T =>
          cases t with
          | false => cases h
          | true =>
            cases V with
            | nil => exact hm.elim
            | cons v V =>
              cases h
              refine ⟨fun _ => ?_, hm.2⟩
              rcases hm.1 rfl with rfl | rfl
              · exact Or.inr rfl
              · exact Or.inl rfl
      · rw [if_neg c3] at h
        rw [if_neg c3]
        have two : ∀ (t1 t2 : Bool) (T2 : List Bool), T = t1 :: t2 :: T2 → ∃ v1 v2 V2, V = v1 :: v2 :: V2 ∧ eb_mt T2 V2 := fun t1 t2 T2 e => by
          subst e
          match V, hm with
          | v1 :: v2 :: V2, hm => exact ⟨v1, v2, V2, rfl, hm.2.2⟩
        have b01 : ∀ (c : Prop) [Decidable c], (if c then (1 : Int32) else 0) = 0 ∨ (if c then (1 : Int32) else 0) = 1 := fun c _ => by
          by_cases q : c
          · rw [if_pos q]; exact Or.inr rfl
          · rw [if_neg q]; exact Or.inl rfl
        by_cases c9 : s = 9
        · rw [if_pos c9] at h
          match T, h with
          | false :: false :: T2, h =>
            obtain ⟨v1, v2, V2, e, q⟩ := two _ _ _ rfl
            subst e
            cases h
            exact ⟨(fun z => by cases z), q⟩
        · rw [if_neg c9] at h
          have op : ∀ a b, eb_op s a b = 0 ∨ eb_op s a b = 1 := fun a b => by
            unfold eb_op
            rw [if_neg c9]
            exact b01 _
          by_cases c10 : s = 10 ∨ s = 11
          · rw [if_pos c10] at h
            match T, h with
            | false :: false :: T2, h =>
              obtain ⟨v1, v2, V2, e, q⟩ := two _ _ _ rfl
              subst e
              cases h
              exact ⟨fun _ => op _ _, q⟩
          · rw [if_neg c10] at h
            match T, h with
            | true :: true :: T2, h =>
              obtain ⟨v1, v2, V2, e, q⟩ := two _ _ _ rfl
              subst e
              cases h
              exact ⟨fun _ => op _ _, q⟩
theorem eb_ty_s {n i : Nat} {T R : List Bool} (h : eb_ty w (n + 1) i T = some R) : ∃ T', eb_t1 (w (531 + 2 * i)) T = some T' ∧ eb_ty w n (i + 1) T' = some R := by
  unfold eb_ty at h
  cases e : eb_t1 (w (531 + 2 * i)) T with
  | none =>
    rw [e, eb_obN] at h
    cases h
  | some T' =>
    rw [e, eb_obR] at h
    exact ⟨T', rfl, h⟩
end HOLDS
