section FEEDB
theorem eb_c4n : ∀ k, k < 4 → (24 : Int32) - (8 * nI k) = eb_c4 k := by decide +kernel
theorem eb_feedB (p1 p2 p3 p4 p5 : Int32) (m : ea_M) (L : Nat) (hL : L + 20 ≤ 400) (h : m 272 9 = nI L) :
    eb_W (f_X12_feed p1 p2 p3 p4 p5 m) (fun z => z.1 = nI (L + 20) ∧ eb_fr (fun a => a = 272 ∨ a = 278 ∨ a = 279) m z.2 ∧ (∀ j, z.2 272 j = if j = 9 then nI (L + 20) else if j = 0 then 0 else m 272 j) ∧ ∀ j, z.2 278 j = if L ≤ j ∧ j < L + 20 then eb_bm (eb_5 p1 p2 p3 p4 p5 ((j - L) / 4)) ((j - L) % 4) else m 278 j) := by
  unfold f_X12_feed
  refine eb_bdE fun m1 e1 => ?_
  have h9 : m1 272 9 = nI L := by rw [e1, eb_stI _ _ _ (by decide)]; exact h
  refine eb_bdV h9 (eb_if ?_ ?_)
  · show nI L + nI 20 ≤ nI 400
    rw [nI_add]
    exact nI_le hL (by decide)
  refine eb_bdE fun m3 e3 => eb_bdE fun m4 e4 => eb_bdE fun m5 e5 => eb_bdE fun m6 e6 => eb_bdE fun m7 e7 => ?_
  have f7 : ∀ a, a ≠ 279 → m7 a = m1 a := fun a ha => by rw [e7, eb_stA _ _ _ ha, e6, eb_stA _ _ _ ha, e5, eb_stA _ _ _ ha, e4, eb_stA _ _ _ ha, e3, eb_stA _ _ _ ha]
  have v7 : ∀ j, j < 5 → m7 279 j = eb_5 p1 p2 p3 p4 p5 j := fun j hj => by
    have : j = 0 ∨ j = 1 ∨ j = 2 ∨ j = 3 ∨ j = 4 := by omega
    rw [e7, eb_sts, e6, eb_sts, e5, eb_sts, e4, eb_sts, e3, eb_sts]
    rcases this with q | q | q | q | q <;> subst q <;> rfl
  have r1 : ∀ a, a ≠ 272 → m1 a = m a := fun a ha => by rw [e1, eb_stA _ _ _ ha]
  have r0 : ∀ j, m1 272 j = if j = 0 then 0 else m 272 j := fun j => by
    rw [e1, eb_sts]
    by_cases hj : j = 0
    · rw [if_pos ⟨rfl, hj⟩, if_pos hj]
    · rw [if_neg (fun z => hj z.2), if_neg hj]
  clear e1 e3 e4 e5 e6 e7
  refine eb_bind (eb_for (Q := fun z => eb_fr (fun a => a = 278) m7 z ∧ ∀ j, z 278 j = if L ≤ j ∧ j < L + 20 then eb_bm (eb_5 p1 p2 p3 p4 p5 ((j - L) / 4)) ((j - L) % 4) else m7 278 j) 20 (fun i s => s.1 = nI i ∧ eb_fr (fun a => a = 278) m7 s.2 ∧ ∀ j, s.2 278 j = if L ≤ j ∧ j < L + i then eb_bm (eb_5 p1 p2 p3 p4 p5 ((j - L) / 4)) ((j - L) % 4) else m7 278 j) ?_ ?_ (by decide) ⟨rfl, eb_fr_refl _ _, fun j => by rw [if_neg (by omega)]⟩) fun mz hz => ?_
  · intro i s hi hI
    obtain ⟨c, mm⟩ := s
    obtain ⟨g1, g2, g3⟩ := hI
    have g1 : c = nI i := g1
    subst g1
    have g2 : eb_fr (fun a => a = 278) m7 mm := g2
    have g3 : ∀ j, mm 278 j = if L ≤ j ∧ j < L + i then eb_bm (eb_5 p1 p2 p3 p4 p5 ((j - L) / 4)) ((j - L) % 4) else m7 278 j := g3
    unfold f_X12_feed_s60
    have k1 : (nI i : Int32) / 4 = nI (i / 4) := pk_div (d := 4) (by omega) (by decide) (by decide)
    have k2 : (nI i : Int32) - nI i / 4 * 4 = nI (i % 4) := pk_rem (d := 4) (by omega) (by decide) (by decide)
    refine eb_else (nI_ge (b := 20) hi (by decide)) ?_
    refine eb_bdV (w := nI L) (by show mm 272 9 = _; rw [g2 272 (by decide), f7 272 (by decide), h9]) ?_
    refine eb_g (i / 4) (by omega) ?_ (hi := k1)
    refine eb_bdV (w := eb_5 p1 p2 p3 p4 p5 (i / 4)) (by show mm 279 (Int32.toNatClampNeg (nI i / 4)) = _; rw [k1, nI_clamp (by omega), g2 279 (by decide), v7 _ (by omega)]) ?_
    refine eb_bdV (w := nI (i % 4)) k2 ?_
    refine eb_bdV (w := eb_c4 (i % 4)) (eb_c4n _ (by omega)) ?_
    refine eb_g (L + i) (by omega) ?_ (hi := nI_add L i)
    refine eb_bd (eb_some ?_)
    refine ⟨nI_1 i, eb_fr_st g2 rfl _ _, fun j => ?_⟩
    show ea_st mm 278 (Int32.toNatClampNeg (nI L + nI i)) (eb_bm (eb_5 p1 p2 p3 p4 p5 (i / 4)) (i % 4)) 278 j = _
    rw [nI_add, nI_clamp (by omega), eb_sts]
    by_cases hj : j = L + i
    · subst hj
      rw [if_pos ⟨rfl, rfl⟩, if_pos ⟨by omega, by omega⟩, Nat.add_sub_cancel_left]
    · rw [if_neg (fun z => hj z.2), g3]
      by_cases hb : L ≤ j ∧ j < L + i
      · rw [if_pos hb, if_pos ⟨hb.1, by omega⟩]
      · rw [if_neg hb, if_neg (by omega)]
  · intro s hI
    unfold f_X12_feed_s60
    exact eb_if (by rw [hI.1]; decide) (eb_some hI.2)
  · have z9 : mz 272 9 = nI L := by rw [hz.1 272 (by decide), f7 272 (by decide), h9]
    refine eb_bdV z9 (eb_bdE fun m14 e14 => ?_)
    have q : ∀ j, m14 272 j = if j = 9 then nI (L + 20) else if j = 0 then 0 else m 272 j := fun j => by
      rw [e14, eb_sts]
      by_cases hj : j = 9
      · rw [if_pos ⟨rfl, hj⟩, if_pos hj]
        exact nI_add L 20
      · rw [if_neg (fun z => hj z.2), if_neg hj, hz.1 272 (by decide), f7 272 (by decide), r0]
    refine eb_bdV (w := nI (L + 20)) (by rw [q, if_pos rfl]) (eb_some ⟨rfl, fun a ha => ?_, q, fun j => ?_⟩)
    · show m14 a = m a
      rw [e14, eb_stA _ _ _ (fun z => ha (Or.inl z)), hz.1 a (fun z => ha (Or.inr (Or.inl z))), f7 a (fun z => ha (Or.inr (Or.inr z))), r1 a (fun z => ha (Or.inl z))]
    · show m14 278 j = _
      rw [e14, eb_stA _ _ _ (by decide), hz.2, f7 278 (by decide), r1 278 (by decide)]
/-- a byte as the class keeps it, and as the reference does -/
def eb_tb (a b : Int32) : Prop := a = b &&& 255 ∧ b.toInt8.toInt32 = b
theorem eb_bm8 (p : Int32) (k : Nat) : (eb_bm p k).toInt8.toInt32 = eb_bm p k := by
  rw [eb_bmE]
  simp
/-- the two tapes -/
def eb_T (m : ea_M) : Prop := ∃ L, L ≤ 400 ∧ m 0 1 = nI L ∧ m 272 9 = nI L ∧ ∀ j, j < 400 → eb_tb (m 1 j) (m 278 j)
end FEEDB
