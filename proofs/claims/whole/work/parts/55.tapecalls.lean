section TAPECALLS
variable {G : ea_G} {i : Nat} {m : ea_M} {I : ea_M → Prop}
def eb_go (I : ea_M → Prop) (i : Nat) : ((Int32 × ea_M) ⊕ ((Int32 × ea_M) ⊕ ea_M)) → Prop := fun z => ∃ m', z = .inl (nI (i + 6), m') ∧ I m'
theorem eb_next (hL : ea_L G ≤ 3072) (hi : i + 6 ≤ ea_L G) (h : I m) : eb_W (f_L_law__j2845 G (nI i) m) (eb_go I i) := eb_of (eb_j2845 G i (by omega) m) ⟨m, rfl, h⟩
theorem eb_call0 (hL : ea_L G ≤ 3072) (hi : i + 6 ≤ ea_L G) (hT : eb_T m) (hI : ∀ m', eb_T m' → eb_TF m m' → I m') : eb_W (f_L_law__j232 G (nI i) m) (eb_go I i) := by
  unfold f_L_law__j232
  refine eb_wd hL 1 (by omega) rfl (eb_wd hL 2 (by omega) rfl (eb_wd hL 3 (by omega) rfl (eb_wd hL 4 (by omega) rfl (eb_wd hL 5 (by omega) rfl (eb_cl (eb_feed _ _ _ _ _ m hT) fun r1 m1 h1 => ?_)))))
  refine eb_wd hL 1 (by omega) rfl (eb_wd hL 2 (by omega) rfl (eb_wd hL 3 (by omega) rfl (eb_wd hL 4 (by omega) rfl (eb_wd hL 5 (by omega) rfl (eb_cl h1 fun r2 m2 h2 => ?_)))))
  exact eb_if h2.1 (eb_next hL hi (hI m2 h2.2.1 h2.2.2))
theorem eb_call1 (hL : ea_L G ≤ 3072) (hi : i + 6 ≤ ea_L G) (hT : eb_T m) (hI : ∀ m', eb_T m' → eb_TF m m' → I m') : eb_W (f_L_law__j305 G (nI i) m) (eb_go I i) := by
  unfold f_L_law__j305
  refine eb_wd hL 1 (by omega) rfl (eb_cl (eb_end _ m hT) fun r1 m1 h1 => ?_)
  refine eb_wd hL 1 (by omega) rfl (eb_cl h1 fun r2 m2 h2 => ?_)
  exact eb_if h2.1 (eb_next hL hi (hI m2 h2.2.1 h2.2.2))
theorem eb_call4 (hL : ea_L G ≤ 3072) (hi : i + 6 ≤ ea_L G) (h : m 0 2 = m 272 14) (hI : I (ea_st m 272 0 0)) : eb_W (f_L_law__j418 G (nI i) m) (eb_go I i) := by
  unfold f_L_law__j418
  refine eb_cl (eb_fault m h) fun r1 m1 h1 => eb_cl h1 fun r2 m2 h2 => ?_
  refine eb_if h2.1 (eb_next hL hi ?_)
  have e : m2 = ea_st m 272 0 0 := h2.2
  rw [e]
  exact hI
end TAPECALLS
