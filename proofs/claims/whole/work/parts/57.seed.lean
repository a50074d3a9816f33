section SEED
theorem eb_seed (p : Int32) (m : ea_M) (h : m 2 6 = m 273 12) : eb_W (f_X11_seed p m) (fun z => eb_W (f_X12_seed p z.2) (fun y => z.1 = y.1 ∧ y.2 = ea_st (ea_st (ea_st m 2 6 p) 272 0 0) 273 12 p)) :=
  eb_bd (eb_bd (eb_some (eb_bd (eb_bd (eb_bd (eb_some ⟨by
    show m 2 6 = ea_st (ea_st m 2 6 p) 272 0 0 273 12
    rw [eb_stA _ _ _ (by decide), eb_stA _ _ _ (by decide)]
    exact h, rfl⟩))))))
theorem eb_callSeed {G : ea_G} {i : Nat} {m : ea_M} {I : ea_M → Prop} (hL : ea_L G ≤ 3072) (hi : i + 6 ≤ ea_L G) (h : m 2 6 = m 273 12) (hI : ∀ p, I (ea_st (ea_st (ea_st m 2 6 p) 272 0 0) 273 12 p)) : eb_W (f_L_law__j2758 G (nI i) m) (eb_go I i) := by
  unfold f_L_law__j2758
  refine eb_wd hL 1 (by omega) rfl (eb_cl (eb_seed _ m h) fun r1 m1 h1 => ?_)
  refine eb_wd hL 1 (by omega) rfl (eb_cl h1 fun r2 m2 h2 => ?_)
  refine eb_if h2.1 (eb_next hL hi ?_)
  have e := h2.2
  dsimp only at e
  rw [e]
  exact hI _
end SEED
