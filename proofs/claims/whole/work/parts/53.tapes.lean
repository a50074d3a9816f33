section TAPES
theorem eb_feedN (p1 p2 p3 p4 p5 : Int32) (m : ea_M) (L : Nat) (hL : L ≤ 400) (hL2 : 400 < L + 20) (h : m 0 1 = nI L) : f_X11_feed p1 p2 p3 p4 p5 m = some (-1, m) := by
  unfold f_X11_feed ea_bd
  dsimp only
  rw [h, if_neg]
  show ¬ nI L + nI 20 ≤ nI 400
  rw [nI_add]
  exact nI_ge hL2 (by omega)
theorem eb_feedNB (p1 p2 p3 p4 p5 : Int32) (m : ea_M) (L : Nat) (hL : L ≤ 400) (hL2 : 400 < L + 20) (h : m 272 9 = nI L) : f_X12_feed p1 p2 p3 p4 p5 m = some (-1, ea_st m 272 0 0) := by
  unfold f_X12_feed ea_bd
  dsimp only
  rw [eb_stI _ _ _ (by decide), h, if_neg]
  show ¬ nI L + nI 20 ≤ nI 400
  rw [nI_add]
  exact nI_ge hL2 (by omega)
/-- what a call of feed or end does to the memory: the tapes' rows, the two lengths, the model's thrown -/
def eb_TF (m m' : ea_M) : Prop := (∀ a, a ≠ 0 → a ≠ 1 → a ≠ 272 → a ≠ 278 → a ≠ 279 → m' a = m a) ∧ (∀ j, j ≠ 1 → m' 0 j = m 0 j) ∧ ∀ j, j ≠ 9 → j ≠ 0 → m' 272 j = m 272 j
theorem eb_feed (p1 p2 p3 p4 p5 : Int32) (m : ea_M) (hT : eb_T m) : eb_W (f_X11_feed p1 p2 p3 p4 p5 m) (fun z => eb_W (f_X12_feed p1 p2 p3 p4 p5 z.2) (fun y => z.1 = y.1 ∧ eb_T y.2 ∧ eb_TF m y.2)) := by
  obtain ⟨L, hL, h1, h2, h3⟩ := hT
  by_cases hc : L + 20 ≤ 400
  · refine eb_mono (eb_feedA p1 p2 p3 p4 p5 m L hc h1) fun z hz => ?_
    obtain ⟨a1, a2, a3, a4⟩ := hz
    refine eb_mono (eb_feedB p1 p2 p3 p4 p5 z.2 L hc (by rw [a2 272 (by decide)]; exact h2)) fun y hy => ?_
    obtain ⟨b1, b2, b3, b4⟩ := hy
    refine ⟨a1.trans b1.symm, ⟨L + 20, hc, ?_, ?_, fun j hj => ?_⟩, fun a q0 q1 q2 q3 q4 => ?_, fun j hj => ?_, fun j q9 q0 => ?_⟩
    · rw [b2 0 (by decide), a3, if_pos rfl]
    · rw [b3, if_pos rfl]
    · rw [b2 1 (by decide), a4, b4]
      by_cases hb : L ≤ j ∧ j < L + 20
      · rw [if_pos hb, if_pos hb]
        exact ⟨eb_by_bm _ (by omega), eb_bm8 _ _⟩
      · rw [if_neg hb, if_neg hb, a2 278 (by decide)]
        exact h3 j hj
    · rw [b2 a (by omega), a2 a (by omega)]
    · rw [b2 0 (by decide), a3, if_neg hj]
    · rw [b3, if_neg q9, if_neg q0, a2 272 (by decide)]
  · refine eb_of (eb_feedN p1 p2 p3 p4 p5 m L hL (by omega) h1) (eb_of (eb_feedNB p1 p2 p3 p4 p5 m L hL (by omega) h2) ⟨rfl, ⟨L, hL, ?_, ?_, fun j hj => ?_⟩, fun a q0 q1 q2 q3 q4 => ?_, fun j hj => ?_, fun j q9 q0 => ?_⟩)
    · show ea_st m 272 0 0 0 1 = _
      rw [eb_stA _ _ _ (by decide)]
      exact h1
    · show ea_st m 272 0 0 272 9 = _
      rw [eb_stI _ _ _ (by decide)]
      exact h2
    · show eb_tb (ea_st m 272 0 0 1 j) (ea_st m 272 0 0 278 j)
      rw [eb_stA _ _ _ (by decide), eb_stA _ _ _ (by decide)]
      exact h3 j hj
    · exact eb_stA _ _ _ q2
    · show ea_st m 272 0 0 0 j = _
      rw [eb_stA _ _ _ (by decide)]
    · exact eb_stI m 272 0 q0
theorem eb_end (p : Int32) (m : ea_M) (hT : eb_T m) : eb_W (f_X11_end p m) (fun z => eb_W (f_X12_end p z.2) (fun y => z.1 = y.1 ∧ eb_T y.2 ∧ eb_TF m y.2)) := by
  obtain ⟨L, hL, h1, h2, h3⟩ := hT
  have key : eb_T (ea_st m 272 0 0) ∧ eb_TF m (ea_st m 272 0 0) := by
    refine ⟨⟨L, hL, ?_, ?_, fun j hj => ?_⟩, fun a q0 q1 q2 q3 q4 => ?_, fun j hj => ?_, fun j q9 q0 => ?_⟩
    · rw [eb_stA _ _ _ (by decide)]
      exact h1
    · rw [eb_stI _ _ _ (by decide)]
      exact h2
    · rw [eb_stA _ _ _ (by decide), eb_stA _ _ _ (by decide)]
      exact h3 j hj
    · exact eb_stA _ _ _ q2
    · rw [eb_stA _ _ _ (by decide)]
    · exact eb_stI _ _ _ q0
  unfold f_X11_end
  refine eb_ite (fun hn => eb_some ?_) (fun hn => eb_bdV h1 (eb_ite (fun hle => eb_bd (eb_some ?_)) (fun hle => eb_some ?_)))
  · show eb_W (f_X12_end p m) _
    unfold f_X12_end
    exact eb_bd (eb_if hn (eb_some ⟨rfl, key⟩))
  · show eb_W (f_X12_end p (ea_st m 0 1 p)) _
    obtain ⟨j, hj, e⟩ := nI_of hn
    subst e
    have hjL : j ≤ L := by
      by_cases q : j ≤ L
      · exact q
      · exact absurd hle (nI_ge (by omega) hj)
    unfold f_X12_end
    refine eb_bd (eb_else hn (eb_bdV (w := nI L) ?_ (eb_if hle (eb_bd (eb_some ⟨rfl, ⟨j, by omega, ?_, ?_, fun i hi => ?_⟩, fun a q0 q1 q2 q3 q4 => ?_, fun i hi => ?_, fun i q9 q0 => ?_⟩)))))
    · rw [eb_stI _ _ _ (by decide), eb_stA _ _ _ (by decide)]
      exact h2
    · show ea_st (ea_st (ea_st m 0 1 (nI j)) 272 0 0) 272 9 (nI j) 0 1 = _
      rw [eb_stA _ _ _ (by decide), eb_stA _ _ _ (by decide), eb_st]
    · exact eb_st (ea_st (ea_st m 0 1 (nI j)) 272 0 0) 272 9 (nI j)
    · show eb_tb (ea_st (ea_st (ea_st m 0 1 (nI j)) 272 0 0) 272 9 (nI j) 1 i) (ea_st (ea_st (ea_st m 0 1 (nI j)) 272 0 0) 272 9 (nI j) 278 i)
      rw [eb_stA _ _ _ (by decide), eb_stA _ _ _ (by decide), eb_stA _ _ _ (by decide), eb_stA _ _ _ (by decide), eb_stA _ _ _ (by decide), eb_stA _ _ _ (by decide)]
      exact h3 i hi
    · show ea_st (ea_st (ea_st m 0 1 (nI j)) 272 0 0) 272 9 (nI j) a = _
      rw [eb_stA _ _ _ q2, eb_stA _ _ _ q2, eb_stA _ _ _ q0]
    · show ea_st (ea_st (ea_st m 0 1 (nI j)) 272 0 0) 272 9 (nI j) 0 i = _
      rw [eb_stA _ _ _ (by decide), eb_stA _ _ _ (by decide), eb_stI _ _ _ hi]
    · show ea_st (ea_st (ea_st m 0 1 (nI j)) 272 0 0) 272 9 (nI j) 272 i = _
      rw [eb_stI _ _ _ q9, eb_stI _ _ _ q0, eb_stA _ _ _ (by decide)]
  · show eb_W (f_X12_end p m) _
    unfold f_X12_end
    exact eb_bd (eb_else hn (eb_bdV (w := nI L) (by rw [eb_stI _ _ _ (by decide)]; exact h2) (eb_else hle (eb_some ⟨rfl, key⟩))))
end TAPES
