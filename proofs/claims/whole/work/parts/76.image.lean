section IMAGE
variable {m m' : ea_M} {τ : Type}
theorem eb_upA {F : ea_M → Option τ} {Q : τ → Prop} {A P L : Nat} (hF : ∀ m', (∀ b, b ≠ A → m' b = m b) → (∀ j, j < L → m' A j = m P j) → eb_W (F m') Q) : eb_W (ea_bd (ea_up m A (va_cpy (m P) (m A) 0 0 L)) F) Q :=
  eb_bd (hF _ (fun b hb => eb_upN _ _ hb) fun j hj => by rw [eb_up, pk_cpy_in (by omega) (by omega), Nat.zero_add, Nat.sub_zero])
theorem eb_copyL (a p : Nat) (hd : a + 8 ≤ p ∨ p + 8 ≤ a) {len : Nat} (hl : len ≤ 400) (e : m p 1 = nI len) : eb_W (f_X7_copyFrom a p m) (fun z => z.2 a 0 = m p 0 ∧ z.2 a 1 = m p 1 ∧ (∀ i j, 1 ≤ i → i ≤ 4 → j < 12 → z.2 (a + i) j = m (p + i) j) ∧ (∀ j, j < len → z.2 (a + 5) j = m (p + 5) j) ∧ ∀ b, ¬ (a ≤ b ∧ b < a + 6) → z.2 b = m b) := by
  unfold f_X7_copyFrom
  refine eb_bd (eb_bdE fun m2 e2 => eb_bd (eb_bdE fun m4 e4 => ?_))
  have r4 : ∀ b, b ≠ a → m4 b = m b := fun b hb => by rw [e4, eb_stA _ _ _ hb, e2, eb_stA _ _ _ hb]
  have r40 : m4 a 0 = m p 0 := by rw [e4, eb_stI _ _ _ (by decide), e2, eb_st]
  have r41 : m4 a 1 = m p 1 := by rw [e4, eb_st, e2, eb_stA _ _ _ (by omega)]
  clear e2 e4
  refine eb_upA fun m5 f5 g5 => eb_upA fun m6 f6 g6 => eb_upA fun m7 f7 g7 => eb_upA fun m8 f8 g8 => ?_
  have k8 : m8 a = m4 a := by rw [f8 a (by omega), f7 a (by omega), f6 a (by omega), f5 a (by omega)]
  refine eb_bdV (w := nI len) (by rw [k8, r41]; exact e) (eb_else ?_ ?_)
  · rw [nI_clamp (by omega), show Int32.toNatClampNeg 0 = 0 from rfl]
    rintro (z | z | z | z | z)
    · exact absurd z (by decide)
    · exact absurd z (by decide)
    · exact nI_pos (by omega) z
    · omega
    · omega
  · rw [nI_clamp (by omega), show Int32.toNatClampNeg 0 = 0 from rfl]
    refine eb_upA fun m10 f10 g10 => eb_some ⟨?_, ?_, fun i j h1 h4 hj => ?_, fun j hj => ?_, fun b hb => ?_⟩
    · show m10 a 0 = _
      rw [f10 a (by omega), k8, r40]
    · show m10 a 1 = _
      rw [f10 a (by omega), k8, r41]
    · show m10 (a + i) j = _
      rw [f10 _ (by omega)]
      obtain rfl | rfl | rfl | rfl : i = 1 ∨ i = 2 ∨ i = 3 ∨ i = 4 := by omega
      · rw [f8 _ (by omega), f7 _ (by omega), f6 _ (by omega), g5 j hj, r4 _ (by omega)]
      · rw [f8 _ (by omega), f7 _ (by omega), g6 j hj, f5 _ (by omega), r4 _ (by omega)]
      · rw [f8 _ (by omega), g7 j hj, f6 _ (by omega), f5 _ (by omega), r4 _ (by omega)]
      · rw [g8 j hj, f7 _ (by omega), f6 _ (by omega), f5 _ (by omega), r4 _ (by omega)]
    · show m10 (a + 5) j = _
      rw [g10 j hj, f8 _ (by omega), f7 _ (by omega), f6 _ (by omega), f5 _ (by omega), r4 _ (by omega)]
    · show m10 b = _
      rw [f10 b (by omega), f8 b (by omega), f7 b (by omega), f6 b (by omega), f5 b (by omega), r4 b (by omega)]
theorem eb_LRlen {l : Nat → Nat → Int32} {w : Nat → Int32} (h : eb_LR l w) : ∃ len, len ≤ 400 ∧ l 0 1 = nI len := by
  rcases h with ⟨_, _, j, hj, e⟩ | ⟨_, _, len, _, hl, _, _, e, _⟩
  · exact ⟨j, hj, e⟩
  · exact ⟨len, hl, e⟩
/-- the copied law is alike where the first was -/
theorem eb_LRcopy {z : ea_M} {a p len : Nat} {w w' : Nat → Int32} (h : eb_LR (eb_ct m p) w) (hl : len ≤ 400) (el : m p 1 = nI len) (hz : z a 0 = m p 0 ∧ z a 1 = m p 1 ∧ (∀ i j, 1 ≤ i → i ≤ 4 → j < 12 → z (a + i) j = m (p + i) j) ∧ ∀ j, j < len → z (a + 5) j = m (p + 5) j) (h4 : w' 4 = w 4) (hw : ∀ j, 482 ≤ j → j < 1331 → w' j = w j) : eb_LR (eb_ct z a) w' :=
  eb_LR_cg (l := eb_ct m p) (l' := eb_ct z a) hz.1 hz.2.1 (fun i j h1 h2 h3 => hz.2.2.1 i j h1 h2 h3) (fun j hj hj4 => hz.2.2.2 j (by
    have hj : nI j < m p 1 := hj
    rw [el] at hj
    exact (nI_ltI (by omega) (by omega)).mp hj)) h4 hw h
theorem eb_p_image (h : eb_I m) : eb_P2 eb_I (f_X11_image m) f_X12_image := by
  obtain ⟨len, hl, el⟩ := eb_LRlen h.1.2.1
  have el : m 16 1 = nI len := el
  unfold f_X11_image
  refine eb_cl (eb_copy 50 2 (by omega) m) fun r1 z hz => ?_
  dsimp only at hz
  obtain ⟨z1, z2⟩ := hz
  refine eb_cl (eb_copyL 64 16 (by omega) hl (m := z) (by rw [z2 16 (by omega)]; exact el)) fun r2 u hu => eb_bd (eb_some ?_)
  dsimp only at hu
  obtain ⟨u1, u2, u3, u4, u5⟩ := hu
  show eb_W (f_X12_image (ea_st u 0 9 1)) _
  have v1 : ∀ a i, ¬ (50 ≤ a ∧ a < 70) → ¬ (a = 0 ∧ i = 9) → ea_st u 0 9 1 a i = m a i := fun a i q1 q2 => by
    rw [eb_sts, if_neg q2, u5 a (by omega), z2 a (by omega)]
  have v2 : ∀ i j, j < eb_len i → ea_st u 0 9 1 (50 + i) j = m (2 + i) j := fun i j hj => by
    have := eb_lenI hj
    rw [eb_stA _ _ _ (by omega), u5 _ (by omega)]
    exact z1 i j hj
  have v3 : ea_st u 0 9 1 0 9 = 1 := eb_st _ _ _ _
  have v4 : (ea_st u 0 9 1) 64 0 = m 16 0 ∧ (ea_st u 0 9 1) 64 1 = m 16 1 ∧ (∀ i j, 1 ≤ i → i ≤ 4 → j < 12 → (ea_st u 0 9 1) (64 + i) j = m (16 + i) j) ∧ ∀ j, j < len → (ea_st u 0 9 1) (64 + 5) j = m (16 + 5) j := by
    refine ⟨?_, ?_, fun i j q1 q2 q3 => ?_, fun j hj => ?_⟩
    · rw [eb_stA _ _ _ (by decide), u1, z2 16 (by omega)]
    · rw [eb_stA _ _ _ (by decide), u2, z2 16 (by omega)]
    · rw [eb_stA _ _ _ (by omega), u3 i j q1 q2 q3, z2 _ (by omega)]
    · rw [eb_stA _ _ _ (by omega), u4 j hj, z2 _ (by omega)]
  obtain ⟨m1, em1⟩ : ∃ m1, m1 = ea_st u 0 9 1 := ⟨_, rfl⟩
  rw [← em1] at v1 v2 v3 v4 ⊢
  unfold f_X12_image
  refine eb_bd (eb_bind (eb_cpyL 1331 273 274 0 (by decide) (by decide) (ea_st m1 272 0 0) (fun k ms hk hms => ?_) (fun ms => rfl)) fun y hy => eb_bd (eb_some ⟨rfl, ?_⟩))
  · unfold f_X12_image_s7
    rw [if_neg (show ¬ (1331 : Int32) ≤ nI k from nI_ge (b := 1331) hk (by decide))]
    dsimp only
    rw [eb_gN (by omega) (by decide), eb_bdR, eb_gN (by omega) (by decide), eb_bdR, nI_clamp (by omega), nI_1, Nat.zero_add]
  · obtain ⟨y1, y2⟩ := hy
    show eb_I (ea_st y 272 6 1)
    have k1 : ∀ a i, a ≠ 274 → ¬ (a = 272 ∧ (i = 0 ∨ i = 6)) → ¬ (50 ≤ a ∧ a < 70) → ¬ (a = 0 ∧ i = 9) → ea_st y 272 6 1 a i = m a i := fun a i q1 q2 q3 q4 => by
      rw [eb_sts, if_neg (by omega), y1 a q1, eb_sts, if_neg (by omega)]
      exact v1 a i q3 q4
    have k2 : ∀ i, i < 1331 → ea_st y 272 6 1 274 i = m 273 i := fun i hi => by
      rw [eb_stA _ _ _ (by decide), y2 i, if_pos hi, eb_stA _ _ _ (by decide), Nat.zero_add]
      exact v1 273 i (by omega) (by omega)
    have k3 : ∀ a i, 50 ≤ a → a < 72 → ea_st y 272 6 1 a i = m1 a i := fun a i q1 q2 => by
      rw [eb_stA _ _ _ (by omega), y1 a (by omega), eb_stA _ _ _ (by omega)]
    have k9 : ea_st y 272 6 1 0 9 = 1 := by
      rw [eb_stA _ _ _ (by omega), y1 0 (by omega), eb_stA _ _ _ (by omega), v3]
    refine ⟨⟨eb_C_cg (fun i j hj => ?_) (fun j _ => k1 273 j (by omega) (by omega) (by omega) (by omega)) h.1.1, eb_LR_m (fun a i _ => k1 a i (by omega) (by omega) (by omega) (by omega)) (k1 _ _ (by omega) (by omega) (by omega) (by omega)) (fun j _ _ => k1 _ _ (by omega) (by omega) (by omega) (by omega)) h.1.2.1, eb_pa_cg (fun a i _ => k1 a i (by omega) (by omega) (by omega) (by omega)) h.1.2.2.1, ⟨?_, Or.inr ⟨k9, ?_, ?_⟩⟩, ?_, ?_⟩, eb_fa_cg h (k1 _ _ (by omega) (by omega) (by omega) (by omega)) (fun j _ => k1 _ _ (by omega) (by omega) (by omega) (by omega)) (k1 _ _ (by omega) (by omega) (by omega) (by omega)) (fun a i _ _ => k1 _ _ (by omega) (by omega) (by omega) (by omega))⟩
    · have := eb_lenI hj
      exact k1 (2 + i) j (by omega) (by omega) (by omega) (by omega)
    · rw [k9]
      exact (eb_st _ _ _ _).symm
    · refine eb_C_cg (c := eb_ct m 2) (w := m 273) (fun i j hj => ?_) (fun j hj => k2 j (by omega)) h.1.1
      have := eb_lenI hj
      exact (k3 (50 + i) j (by omega) (by omega)).trans (v2 i j hj)
    · exact eb_LRcopy (m := m) (p := 16) (w := m 273) h.1.2.1 hl el ⟨(k3 64 0 (by decide) (by decide)).trans v4.1, (k3 64 1 (by decide) (by decide)).trans v4.2.1, fun i j q1 q2 q3 => (k3 (64 + i) j (by omega) (by omega)).trans (v4.2.2.1 i j q1 q2 q3), fun j hj => (k3 (64 + 5) j (by omega) (by omega)).trans (v4.2.2.2 j hj)⟩ (k2 4 (by decide)) (fun j _ hj => k2 j hj)
    · obtain ⟨L, t1, t2, t3, t4⟩ := h.1.2.2.2.2.1
      refine ⟨L, t1, ?_, ?_, fun j hj => ?_⟩
      · rw [k1 0 1 (by omega) (by omega) (by omega) (by omega)]; exact t2
      · rw [k1 272 9 (by omega) (by omega) (by omega) (by omega)]; exact t3
      · rw [k1 1 j (by omega) (by omega) (by omega) (by omega), k1 278 j (by omega) (by omega) (by omega) (by omega)]; exact t4 j hj
    · rw [k1 0 2 (by omega) (by omega) (by omega) (by omega), k1 272 14 (by omega) (by omega) (by omega) (by omega)]
      exact h.1.2.2.2.2.2
theorem eb_p_back (h : eb_I m) : eb_P2 eb_I (f_X11_back m) f_X12_back := by
  obtain ⟨i1, i2⟩ := h.1.2.2.2.1
  by_cases h0 : m 0 9 = 0
  · refine eb_P2q h (v := 0) (m1 := m) (m2 := ea_st m 272 0 0) ?_ ?_ (eb_E0 m)
    · unfold f_X11_back
      rw [eb_bdR, if_pos h0]
    · unfold f_X12_back
      rw [eb_bdR, eb_bdR, eb_stI _ _ _ (by decide), ← i1, if_pos h0]
  · rcases i2 with z | ⟨i2, i3, i4⟩
    · exact absurd z h0
    obtain ⟨len, hl, el⟩ := eb_LRlen i4
    have el : m 64 1 = nI len := el
    unfold f_X11_back
    refine eb_bd (eb_else h0 ?_)
    refine eb_cl (eb_copy 2 50 (by omega) m) fun r1 z hz => ?_
    dsimp only at hz
    obtain ⟨z1, z2⟩ := hz
    refine eb_cl (eb_copyL 16 64 (by omega) hl (m := z) (by rw [z2 64 (by omega)]; exact el)) fun r2 u hu => ?_
    dsimp only at hu
    obtain ⟨u1, u2, u3, u4, u5⟩ := hu
    rw [show f_X11_forgetActs u = some (0, ea_st u 0 13 0) from rfl, eb_clR, eb_forget, eb_clR]
    refine eb_some ?_
    show eb_W (f_X12_back (ea_st (ea_st u 0 13 0) 0 18 0)) _
    have v1 : ∀ a i, ¬ (2 ≤ a ∧ a < 22) → ¬ (a = 0 ∧ (i = 13 ∨ i = 18)) → ea_st (ea_st u 0 13 0) 0 18 0 a i = m a i := fun a i q1 q2 => by
      rw [eb_sts, if_neg (by omega), eb_sts, if_neg (by omega), u5 a (by omega), z2 a (by omega)]
    have v2 : ∀ i j, j < eb_len i → ea_st (ea_st u 0 13 0) 0 18 0 (2 + i) j = m (50 + i) j := fun i j hj => by
      have := eb_lenI hj
      rw [eb_stA _ _ _ (by omega), eb_stA _ _ _ (by omega), u5 _ (by omega)]
      exact z1 i j hj
    have v3 : ea_st (ea_st u 0 13 0) 0 18 0 0 18 = 0 := eb_st _ _ _ _
    have v13 : ea_st (ea_st u 0 13 0) 0 18 0 0 13 = 0 := by rw [eb_stI _ _ _ (by decide), eb_st]
    have v4 : (ea_st (ea_st u 0 13 0) 0 18 0) 16 0 = m 64 0 ∧ (ea_st (ea_st u 0 13 0) 0 18 0) 16 1 = m 64 1 ∧ (∀ i j, 1 ≤ i → i ≤ 4 → j < 12 → (ea_st (ea_st u 0 13 0) 0 18 0) (16 + i) j = m (64 + i) j) ∧ ∀ j, j < len → (ea_st (ea_st u 0 13 0) 0 18 0) (16 + 5) j = m (64 + 5) j := by
      refine ⟨?_, ?_, fun i j q1 q2 q3 => ?_, fun j hj => ?_⟩
      · rw [eb_stA _ _ _ (by decide), eb_stA _ _ _ (by decide), u1, z2 64 (by omega)]
      · rw [eb_stA _ _ _ (by decide), eb_stA _ _ _ (by decide), u2, z2 64 (by omega)]
      · rw [eb_stA _ _ _ (by omega), eb_stA _ _ _ (by omega), u3 i j q1 q2 q3, z2 _ (by omega)]
      · rw [eb_stA _ _ _ (by omega), eb_stA _ _ _ (by omega), u4 j hj, z2 _ (by omega)]
    obtain ⟨m1, em1⟩ : ∃ m1, m1 = ea_st (ea_st u 0 13 0) 0 18 0 := ⟨_, rfl⟩
    rw [← em1] at v1 v2 v3 v4 v13 ⊢
    unfold f_X12_back
    refine eb_bd (eb_bdV (w := m 0 9) (by rw [eb_stI _ _ _ (by decide), v1 272 6 (by omega) (by omega)]; exact i1.symm) (eb_else h0 ?_))
    refine eb_bind (eb_cpyL 1331 274 273 0 (by decide) (by decide) (ea_st m1 272 0 0) (fun k ms hk hms => ?_) (fun ms => rfl)) fun y hy => eb_bd (eb_some ⟨rfl, ?_⟩)
    · unfold f_X12_back_s16
      rw [if_neg (show ¬ (1331 : Int32) ≤ nI k from nI_ge (b := 1331) hk (by decide))]
      dsimp only
      rw [eb_gN (by omega) (by decide), eb_bdR, eb_gN (by omega) (by decide), eb_bdR, nI_clamp (by omega), nI_1, Nat.zero_add]
    · obtain ⟨y1, y2⟩ := hy
      show eb_I (ea_st y 272 7 0)
      have k1 : ∀ a i, a ≠ 273 → ¬ (a = 272 ∧ (i = 0 ∨ i = 7)) → ¬ (2 ≤ a ∧ a < 22) → ¬ (a = 0 ∧ (i = 13 ∨ i = 18)) → ea_st y 272 7 0 a i = m a i := fun a i q1 q2 q3 q4 => by
        rw [eb_sts, if_neg (by omega), y1 a q1, eb_sts, if_neg (by omega)]
        exact v1 a i q3 q4
      have k2 : ∀ i, i < 1331 → ea_st y 272 7 0 273 i = m 274 i := fun i hi => by
        rw [eb_stA _ _ _ (by decide), y2 i, if_pos hi, eb_stA _ _ _ (by decide), Nat.zero_add]
        exact v1 274 i (by omega) (by omega)
      have k3 : ∀ a i, a < 272 → ea_st y 272 7 0 a i = m1 a i := fun a i q1 => by
        rw [eb_stA _ _ _ (by omega), y1 a (by omega), eb_stA _ _ _ (by omega)]
      obtain ⟨q, x, hq, hx, e13, e7, e14, hp⟩ := h.1.2.2.1
      refine ⟨⟨eb_C_cg (c := eb_ct m 50) (w := m 274) (fun i j hj => ?_) (fun j hj => k2 j (by omega)) i3, eb_LRcopy (m := m) (p := 64) (w := m 274) i4 hl el ⟨(k3 16 0 (by decide)).trans v4.1, (k3 16 1 (by decide)).trans v4.2.1, fun i j q1 q2 q3 => (k3 (16 + i) j (by omega)).trans (v4.2.2.1 i j q1 q2 q3), fun j hj => (k3 (16 + 5) j (by omega)).trans (v4.2.2.2 j hj)⟩ (k2 4 (by decide)) (fun j _ hj => k2 j hj), ⟨0, x, by omega, hx, ?_, ?_, ?_, fun j hj => by omega⟩, eb_im_cg (fun a i _ => k1 a i (by omega) (by omega) (by omega) (by omega)) h.1.2.2.2.1, ?_, ?_⟩, Or.inl ?_⟩
      · have := eb_lenI hj
        exact (k3 (2 + i) j (by omega)).trans (v2 i j hj)
      · exact (k3 0 13 (by decide)).trans v13
      · exact eb_st _ _ _ _
      · rw [k1 0 14 (by omega) (by omega) (by omega) (by omega)]; exact e14
      · obtain ⟨L, t1, t2, t3, t4⟩ := h.1.2.2.2.2.1
        refine ⟨L, t1, ?_, ?_, fun j hj => ?_⟩
        · rw [k1 0 1 (by omega) (by omega) (by omega) (by omega)]; exact t2
        · rw [k1 272 9 (by omega) (by omega) (by omega) (by omega)]; exact t3
        · rw [k1 1 j (by omega) (by omega) (by omega) (by omega), k1 278 j (by omega) (by omega) (by omega) (by omega)]; exact t4 j hj
      · rw [k1 0 2 (by omega) (by omega) (by omega) (by omega), k1 272 14 (by omega) (by omega) (by omega) (by omega)]
        exact h.1.2.2.2.2.2
      · exact (k3 0 18 (by decide)).trans v3
end IMAGE
