section LAWLOOP
theorem eb_j2845 (G : ea_G) (i : Nat) (hi : i + 6 ≤ 3072) (m : ea_M) : f_L_law__j2845 G (nI i) m = some (.inl (nI (i + 6), m)) := by
  unfold f_L_law__j2845
  have e : nI i + 6 = nI (i + 6) := nI_add i 6
  rw [e, nI_clamp (by omega), nI_clamp (by omega), if_pos rfl]
/-- word i of the script -/
theorem eb_wd {τ : Type} {G : ea_G} (hL : ea_L G ≤ 3072) {i : Nat} (k : Nat) {x : Int32} {f : Int32 → Option τ} {Q : τ → Prop} (hi : i + k < ea_L G) (hk : x = nI k) (h : eb_W (f (ea_xs G (i + k))) Q) : eb_W (ea_g (nI i + x) (ea_L G) (ea_bd (ea_xs G (Int32.toNatClampNeg (nI i + x))) f)) Q := by
  subst hk
  rw [nI_add, nI_clamp (by omega)]
  exact eb_gI (nI_in hi (by omega)) (eb_bd h)
theorem eb_law (G : ea_G) (hL : ea_L G ≤ 3072) (I : ea_M → Prop)
    (hs : ∀ i m, i + 6 ≤ ea_L G → I m → eb_W (f_L_law__s23 G (nI i, m)) (fun z => ∃ m', z = .inl (nI (i + 6), m') ∧ I m')) (m : ea_M) (h : I m) : ∃ mZ, f_L_law_ G m = some (1, mZ) := by
  have key : eb_W (ea_loop (f_L_law__s23 G) ea_fuel (0, m)) (fun r => ∃ x, r = .inr x) := by
    refine eb_while (fun n s => ∃ i, s.1 = nI i ∧ i ≤ ea_L G ∧ n = ea_L G - i ∧ I s.2) ?_ ea_fuel (ea_L G) (0, m) (Nat.lt_of_le_of_lt hL (by decide)) ⟨0, rfl, Nat.zero_le _, rfl, h⟩
    intro n s hI
    obtain ⟨c, mm⟩ := s
    obtain ⟨i, h1, h2, h3, h4⟩ := hI
    have h1 : c = nI i := h1
    have h4 : I mm := h4
    subst h1
    by_cases hc : i + 6 ≤ ea_L G
    · refine eb_mono (hs i mm hc h4) fun z hz => ?_
      obtain ⟨m', e, hm⟩ := hz
      subst e
      exact ⟨ea_L G - (i + 6), by omega, i + 6, rfl, by omega, rfl, hm⟩
    · unfold f_L_law__s23
      refine eb_if (show Int32.toNatClampNeg (nI i) ≤ 4000 by rw [nI_clamp (by omega)]; omega) (eb_if ?_ (eb_some ⟨mm, rfl⟩))
      show nI (ea_L G) - nI 6 < nI i
      rw [Int32.lt_iff_toInt_lt, pk_sub_toInt (by omega) (by decide), nI_toInt (by omega)]
      omega
  obtain ⟨r, e, x, hx⟩ := key
  subst hx
  refine ⟨x, ?_⟩
  unfold f_L_law_
  rw [e]
  rfl
theorem eb_fault (m : ea_M) (h : m 0 2 = m 272 14) : eb_W (f_X11_fault m) (fun z => eb_W (f_X12_fault z.2) (fun y => z.1 = y.1 ∧ y.2 = ea_st m 272 0 0)) :=
  eb_bd (eb_some (eb_bd (eb_bd (eb_some ⟨by show m 0 2 = ea_st m 272 0 0 272 14; rw [eb_stI _ _ _ (by decide)]; exact h, rfl⟩))))
end LAWLOOP
