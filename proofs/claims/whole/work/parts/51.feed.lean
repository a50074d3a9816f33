section FEED
def eb_c4 (k : Nat) : Int32 := [24, 16, 8, 0, -8].getD k 0
theorem eb_c4s : ∀ k, k < 4 → ¬ eb_c4 k < 0 ∧ eb_c4 k + (-8) = eb_c4 (k + 1) := by decide +kernel
/-- byte k of the four of p, as a number of 0 .. 255 -/
def eb_by (p : Int32) (k : Nat) : Int32 := ((Int32.toUInt32 p >>> (Int32.toUInt32 (eb_c4 k) &&& Int32.toUInt32 31)).toInt32) &&& 255
theorem eb_putOnTape (p : Int32) (m : ea_M) (L : Nat) (hL : L + 4 ≤ 400) (h : m 0 1 = nI L) :
    eb_W (f_X11_putOnTape p m) (fun z => eb_fr (fun a => a = 0 ∨ a = 1) m z.2 ∧ (∀ j, z.2 0 j = if j = 1 then nI (L + 4) else m 0 j) ∧ ∀ j, z.2 1 j = if L ≤ j ∧ j < L + 4 then eb_by p (j - L) else m 1 j) := by
  unfold f_X11_putOnTape
  refine eb_bind (eb_for (Q := fun z => eb_fr (fun a => a = 0 ∨ a = 1) m z ∧ (∀ j, z 0 j = if j = 1 then nI (L + 4) else m 0 j) ∧ ∀ j, z 1 j = if L ≤ j ∧ j < L + 4 then eb_by p (j - L) else m 1 j) 4 (fun k s => s.1 = eb_c4 k ∧ eb_fr (fun a => a = 0 ∨ a = 1) m s.2 ∧ (∀ j, s.2 0 j = if j = 1 then nI (L + k) else m 0 j) ∧ ∀ j, s.2 1 j = if L ≤ j ∧ j < L + k then eb_by p (j - L) else m 1 j) ?_ ?_ (by decide) ⟨rfl, eb_fr_refl _ _, ?_, ?_⟩) fun z hz => eb_some hz
  · intro k s hk hI
    obtain ⟨i, mm⟩ := s
    obtain ⟨h1, h2, h3, h4⟩ := hI
    have h1 : i = eb_c4 k := h1
    subst h1
    have h2 : eb_fr (fun a => a = 0 ∨ a = 1) m mm := h2
    have h3 : ∀ j, mm 0 j = if j = 1 then nI (L + k) else m 0 j := h3
    have h4 : ∀ j, mm 1 j = if L ≤ j ∧ j < L + k then eb_by p (j - L) else m 1 j := h4
    unfold f_X11_putOnTape_s3
    refine eb_else (eb_c4s k hk).1 ?_
    have e1 : mm 0 1 = nI (L + k) := by rw [h3, if_pos rfl]
    refine eb_bdV e1 (eb_else (nI_ge (b := 400) (by omega) (by decide)) (eb_bdV e1 (eb_bd (eb_g (L + k) (by omega) (eb_bd (eb_bdE fun x hx => eb_bd (eb_some ?_)))))))
    have ec : Int32.toNatClampNeg (nI (L + k)) = L + k := nI_clamp (by omega)
    rw [ec] at hx ⊢
    dsimp only at hx
    rw [eb_stA _ _ _ (by decide), e1] at hx
    subst hx
    refine ⟨(eb_c4s k hk).2, eb_fr_st (eb_fr_st h2 (Or.inr rfl) _ _) (Or.inl rfl) _ _, fun j => ?_, fun j => ?_⟩
    · show ea_st (ea_st mm 1 (L + k) (eb_by p k)) 0 1 (nI (L + k) + 1) 0 j = _
      rw [eb_sts]
      by_cases hj : j = 1
      · rw [if_pos ⟨rfl, hj⟩, if_pos hj, nI_1]
        rfl
      · rw [if_neg (fun z => hj z.2), if_neg hj, eb_stA _ _ _ (by decide), h3, if_neg hj]
    · show ea_st (ea_st mm 1 (L + k) (eb_by p k)) 0 1 (nI (L + k) + 1) 1 j = _
      rw [eb_stA _ _ _ (by decide), eb_sts]
      by_cases hj : j = L + k
      · subst hj
        rw [if_pos ⟨rfl, rfl⟩, if_pos ⟨by omega, by omega⟩, Nat.add_sub_cancel_left]
      · rw [if_neg (fun z => hj z.2), h4]
        by_cases hb : L ≤ j ∧ j < L + k
        · rw [if_pos hb, if_pos ⟨hb.1, by omega⟩]
        · rw [if_neg hb, if_neg (by omega)]
  · intro s hI
    unfold f_X11_putOnTape_s3
    refine eb_if (by rw [hI.1]; decide) (eb_some hI.2)
  · intro j
    by_cases hj : j = 1
    · rw [if_pos hj, hj]
      exact h
    · rw [if_neg hj]
  · intro j
    rw [if_neg (by omega)]
theorem eb_255 : ∀ i, i < 32 → (255 : BitVec 32).getLsbD i = decide (i < 8) := by decide +kernel
theorem eb_and8 {x y : BitVec 32} (h : ∀ i, i < 8 → x.getLsbD i = y.getLsbD i) : x &&& 255 = y &&& 255 := by
  apply BitVec.eq_of_getLsbD_eq
  intro i hi
  rw [BitVec.getLsbD_and, BitVec.getLsbD_and, eb_255 i hi]
  by_cases h8 : i < 8
  · rw [h i h8]
  · rw [decide_eq_false h8, Bool.and_false, Bool.and_false]
theorem eb_b8 (x : Int32) : x.toInt8.toInt32 &&& 255 = x &&& 255 := by
  apply Int32.toBitVec_inj.mp
  show (x.toBitVec.signExtend 8).signExtend 32 &&& 255 = x.toBitVec &&& 255
  refine eb_and8 fun i hi => ?_
  rw [BitVec.getLsbD_signExtend, if_pos hi, BitVec.getLsbD_signExtend, if_pos (by omega), decide_eq_true (show i < 32 by omega), decide_eq_true hi, Bool.true_and, Bool.true_and]
theorem eb_sh8 (p s : Int32) (k : Nat) (h1 : ((s &&& 31).toBitVec.smod 32).toNat = k) (h2 : ((s.toUInt32 &&& Int32.toUInt32 31).toBitVec % 32).toNat = k) (hk : k ≤ 24) : (p.toUInt32 >>> (s.toUInt32 &&& Int32.toUInt32 31)).toInt32 &&& 255 = (p >>> (s &&& 31)) &&& 255 := by
  apply Int32.toBitVec_inj.mp
  show p.toBitVec >>> ((s.toUInt32 &&& Int32.toUInt32 31).toBitVec % 32).toNat &&& 255 = p.toBitVec.sshiftRight ((s &&& 31).toBitVec.smod 32).toNat &&& 255
  rw [h1, h2]
  refine eb_and8 fun i hi => ?_
  rw [BitVec.getLsbD_ushiftRight, BitVec.getLsbD_sshiftRight, if_pos (by omega), decide_eq_false (by omega), Bool.not_false, Bool.true_and]
/-- byte k as the model stores it -/
def eb_bm (p : Int32) (k : Nat) : Int32 := vp_nar .byte ((Int32.toInt8 (p >>> (eb_c4 k &&& 31))).toInt32)
theorem eb_bmE (p : Int32) (k : Nat) : eb_bm p k = (p >>> (eb_c4 k &&& 31)).toInt8.toInt32 := by
  show ((p >>> (eb_c4 k &&& 31)).toInt8.toInt32).toInt8.toInt32 = _
  simp
theorem eb_c4k : ∀ k, k < 4 → ((eb_c4 k &&& 31).toBitVec.smod 32).toNat = 24 - 8 * k ∧ (((eb_c4 k).toUInt32 &&& Int32.toUInt32 31).toBitVec % 32).toNat = 24 - 8 * k := by decide +kernel
theorem eb_by_bm (p : Int32) {k : Nat} (hk : k < 4) : eb_by p k = eb_bm p k &&& 255 := by
  rw [eb_bmE, eb_b8]
  exact eb_sh8 p (eb_c4 k) (24 - 8 * k) (eb_c4k k hk).1 (eb_c4k k hk).2 (by omega)
/-- the j-th of five -/
def eb_5 (p1 p2 p3 p4 p5 : Int32) (j : Nat) : Int32 := match j with | 0 => p1 | 1 => p2 | 2 => p3 | 3 => p4 | _ => p5
theorem eb_feedA (p1 p2 p3 p4 p5 : Int32) (m : ea_M) (L : Nat) (hL : L + 20 ≤ 400) (h : m 0 1 = nI L) :
    eb_W (f_X11_feed p1 p2 p3 p4 p5 m) (fun z => z.1 = nI (L + 20) ∧ eb_fr (fun a => a = 0 ∨ a = 1) m z.2 ∧ (∀ j, z.2 0 j = if j = 1 then nI (L + 20) else m 0 j) ∧ ∀ j, z.2 1 j = if L ≤ j ∧ j < L + 20 then eb_by (eb_5 p1 p2 p3 p4 p5 ((j - L) / 4)) ((j - L) % 4) else m 1 j) := by
  unfold f_X11_feed
  refine eb_bdV h (eb_if ?_ ?_)
  · show nI L + nI 20 ≤ nI 400
    rw [nI_add]
    exact nI_le hL (by decide)
  refine eb_cl (eb_putOnTape p1 m L (by omega) h) fun r1 m1 h1 => ?_
  refine eb_cl (eb_putOnTape p2 m1 (L + 4) (by omega) ((h1.2.1 1).trans (if_pos rfl))) fun r2 m2 h2 => ?_
  refine eb_cl (eb_putOnTape p3 m2 (L + 8) (by omega) ((h2.2.1 1).trans (if_pos rfl))) fun r3 m3 h3 => ?_
  refine eb_cl (eb_putOnTape p4 m3 (L + 12) (by omega) ((h3.2.1 1).trans (if_pos rfl))) fun r4 m4 h4 => ?_
  refine eb_cl (eb_putOnTape p5 m4 (L + 16) (by omega) ((h4.2.1 1).trans (if_pos rfl))) fun r5 m5 h5 => ?_
  dsimp only at h1 h2 h3 h4 h5
  have e0 : ∀ j, m5 0 j = if j = 1 then nI (L + 20) else m 0 j := fun j => by
    rw [h5.2.1, h4.2.1, h3.2.1, h2.2.1, h1.2.1]
    by_cases hj : j = 1
    · rw [if_pos hj, if_pos hj]
    · rw [if_neg hj, if_neg hj, if_neg hj, if_neg hj, if_neg hj, if_neg hj]
  refine eb_bdV (w := nI (L + 20)) (by rw [e0, if_pos rfl]) (eb_some ⟨rfl, eb_fr_trans h1.1 (eb_fr_trans h2.1 (eb_fr_trans h3.1 (eb_fr_trans h4.1 h5.1))), e0, fun j => ?_⟩)
  show m5 1 j = _
  rw [h5.2.2, h4.2.2, h3.2.2, h2.2.2, h1.2.2]
  by_cases b1 : j < L
  · rw [if_neg (by omega), if_neg (by omega), if_neg (by omega), if_neg (by omega), if_neg (by omega), if_neg (by omega)]
  by_cases b2 : j < L + 4
  · rw [if_neg (by omega), if_neg (by omega), if_neg (by omega), if_neg (by omega), if_pos (by omega), if_pos (by omega), show (j - L) / 4 = 0 by omega, show (j - L) % 4 = j - L by omega]
    rfl
  by_cases b3 : j < L + 8
  · rw [if_neg (by omega), if_neg (by omega), if_neg (by omega), if_pos (by omega), if_pos (by omega), show (j - L) / 4 = 1 by omega, show (j - L) % 4 = j - (L + 4) by omega]
    rfl
  by_cases b4 : j < L + 12
  · rw [if_neg (by omega), if_neg (by omega), if_pos (by omega), if_pos (by omega), show (j - L) / 4 = 2 by omega, show (j - L) % 4 = j - (L + 8) by omega]
    rfl
  by_cases b5 : j < L + 16
  · rw [if_neg (by omega), if_pos (by omega), if_pos (by omega), show (j - L) / 4 = 3 by omega, show (j - L) % 4 = j - (L + 12) by omega]
    rfl
  by_cases b6 : j < L + 20
  · rw [if_pos (by omega), if_pos (by omega), show (j - L) / 4 = 4 by omega, show (j - L) % 4 = j - (L + 16) by omega]
    rfl
  · rw [if_neg (by omega), if_neg (by omega), if_neg (by omega), if_neg (by omega), if_neg (by omega), if_neg (by omega)]
end FEED
