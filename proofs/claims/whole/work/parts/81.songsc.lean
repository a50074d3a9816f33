section SONGSC
variable {m m' : ea_M}
theorem eb_E_pt (h : ∀ a i, ¬ eb_Sc a i → m' a i = m a i) : eb_E m m' :=
  ⟨fun b j hb => h b j (by unfold eb_NJ at hb; unfold eb_Sc; omega), h 0 18 (by unfold eb_Sc; omega), fun b j q1 q2 => h b j (by unfold eb_Sc; omega)⟩
/-- both tapes used up -/
theorem eb_I_used (h : eb_I m) : eb_I (ea_st (ea_st m 0 1 0) 272 9 0) := by
  have k : ∀ a i, ¬ (a = 0 ∧ i = 1) → ¬ (a = 272 ∧ i = 9) → ea_st (ea_st m 0 1 0) 272 9 0 a i = m a i := fun a i q1 q2 => by
    rw [eb_sts, if_neg q2, eb_sts, if_neg q1]
  refine eb_I_TF h ⟨0, by decide, ?_, eb_st _ _ _ _, fun j hj => ?_⟩ ⟨fun a q0 q1 q2 _ _ => ?_, fun j hj => ?_, fun j q9 _ => ?_⟩
  · rw [eb_stA _ _ _ (by decide), eb_st]
    rfl
  · obtain ⟨L, t1, t2, t3, t4⟩ := h.1.2.2.2.2.1
    rw [k 1 j (by omega) (by omega), k 278 j (by omega) (by omega)]
    exact t4 j hj
  · rw [eb_stA _ _ _ q2, eb_stA _ _ _ q0]
  · exact k 0 j (by omega) (by omega)
  · exact k 272 j (by omega) (by omega)
theorem eb_usesM {L : Nat} (e : m 272 9 = nI L) : f_X12_uses m = some (0, ea_st (ea_st (ea_st (ea_st m 272 0 0) 272 11 (nI L)) 272 9 0) 272 10 0) := by
  unfold f_X12_uses
  rw [eb_bdR, eb_bdR, eb_stI _ _ _ (by decide), e]
  rfl
/-- what both sides see of tapes and tunes -/
theorem eb_see (h : eb_I m) : ∃ (n L : Nat) (tb : Nat → Nat), n ≤ 6 ∧ L ≤ 400 ∧ (∀ j, tb j < 256) ∧ m 0 1 = nI L ∧ m 272 9 = nI L ∧ (∀ mc : ea_M, mc 2 8 = m 2 8 → (∀ b, mc 6 b = m 6 b) → (∀ j, mc 1 j = m 1 j) → eb_SA mc (fun b => m 273 (28 + 4 * b)) tb n) ∧ ∀ mm : ea_M, mm 273 = m 273 → mm 278 = m 278 → mm 272 11 = nI L → eb_SM mm (fun b => m 273 (28 + 4 * b)) tb n L := by
  obtain ⟨n, hn, e1, e2, e3⟩ := eb_IB h
  obtain ⟨L, t1, t2, t3, t4⟩ := h.1.2.2.2.2.1
  have key : ∀ j, j < 400 → ∃ k, k < 256 ∧ m 1 j = nI k ∧ (k < 128 → m 278 j = nI k) ∧ (128 ≤ k → m 278 j < 0) := fun j hj => eb_tbN (t4 j hj)
  have key2 : ∀ j, ∃ k, k < 256 ∧ (j < 400 → m 1 j = nI k ∧ (k < 128 → m 278 j = nI k) ∧ (128 ≤ k → m 278 j < 0)) := fun j => by
    by_cases hj : j < 400
    · obtain ⟨k, k1, k2⟩ := key j hj
      exact ⟨k, k1, fun _ => k2⟩
    · exact ⟨0, by decide, fun z => absurd z hj⟩
  obtain ⟨tb, htb⟩ : ∃ tb : Nat → Nat, ∀ j, tb j < 256 ∧ (j < 400 → m 1 j = nI (tb j) ∧ (tb j < 128 → m 278 j = nI (tb j)) ∧ (128 ≤ tb j → m 278 j < 0)) := ⟨fun j => Classical.choose (key2 j), fun j => Classical.choose_spec (key2 j)⟩
  refine ⟨n, L, tb, hn, t1, fun j => (htb j).1, t2, t3, fun mc c1 c2 c3 => ⟨c1.trans e2, fun b hb => ?_, fun j hj => (c3 j).trans ((htb j).2 hj).1⟩, fun mm c1 c2 c3 => ⟨by rw [c1]; exact e1, fun b hb => by rw [c1], c3, fun j hj => by rw [c2]; exact ((htb j).2 hj).2⟩⟩
  rw [c2]
  exact (h.1.1.2.2.2.1 b (by rw [e3]; exact hb)).2.2.1
theorem eb_p_songs (p : Int32) (_ : eb_bo p) (h : eb_I m) : eb_P eb_I (f_L_songs p m) (f_X12_songs p) := by
  obtain ⟨n, L, tb, hn, hL, hb, t2, t3, hA, hM⟩ := eb_see h
  have sA := hA (ea_st m 0 1 0) rfl (fun _ => rfl) (fun _ => rfl)
  have hu : f_X11_useTapeUp m = some (nI L, ea_st m 0 1 0) := by
    unfold f_X11_useTapeUp
    rw [eb_bdR, t2]
    rfl
  by_cases c : L ≤ 40 ∧ L % 2 = 0 ∧ eb_so tb (L / 2) = true
  · obtain ⟨v, ev⟩ : ∃ v : Int32, v = (if p = 0 then (eb_F (eb_sg1 (eb_fit (fun b => m 273 (28 + 4 * b)) tb n L)) (0, nI (2 ^ n) - 1) (2 ^ n)).1 else if (eb_F (eb_sg1 (eb_fit (fun b => m 273 (28 + 4 * b)) tb n L)) (0, nI (2 ^ n) - 1) (2 ^ n)).1 = 0 then 0 else (eb_F (eb_sg1 (eb_fit (fun b => m 273 (28 + 4 * b)) tb n L)) (0, nI (2 ^ n) - 1) (2 ^ n)).2) := ⟨_, rfl⟩
    have t9 : (ea_st (ea_st m 0 1 0) 287 0 v) 272 9 = nI L := by rw [eb_stA _ _ _ (by decide), eb_stA _ _ _ (by decide)]; exact t3
    have sM := hM (ea_st (ea_st (ea_st (ea_st (ea_st (ea_st m 0 1 0) 287 0 v) 272 0 0) 272 11 (nI L)) 272 9 0) 272 10 0) rfl rfl (by rw [eb_stI _ _ _ (by decide), eb_stI _ _ _ (by decide), eb_st])
    refine eb_Pv (eb_I_used h) (v := v) (m1 := ea_st (ea_st m 0 1 0) 287 0 v) (m2 := ea_st (ea_st (ea_st (ea_st (ea_st (ea_st m 0 1 0) 287 0 v) 272 0 0) 272 11 (nI L)) 272 9 0) 272 10 0) ?_ ?_ ?_ ?_ ?_
    · unfold f_L_songs f_X11_songs
      rw [hu, eb_clR, eb_needA sA.2.2 hb hL, if_pos c, eb_cx0, sA.1, eb_bdR, eb_shl1 n (by omega), eb_bdR, eb_songsA sA hn c.1 c.2.1, eb_obR]
      by_cases hp : p = 0
      · rw [if_pos hp] at ev
        rw [if_pos hp, ev]
        rfl
      · rw [if_neg hp] at ev
        rw [if_neg hp]
        dsimp only
        by_cases h0 : (eb_F (eb_sg1 (eb_fit (fun b => m 273 (28 + 4 * b)) tb n L)) (0, nI (2 ^ n) - 1) (2 ^ n)).1 = 0
        · rw [if_pos h0] at ev
          rw [if_pos h0, ev]
          rfl
        · rw [if_neg h0] at ev
          rw [if_neg h0, ev]
          rfl
    · unfold f_X12_songs
      rw [eb_usesM t9, eb_clR, eb_toldM sM.2.2.2 sM.2.2.1 hb hL, if_pos c, eb_clR, if_neg eb_ne10]
      unfold f_X12_songs_j17
      rw [eb_throwsIf0, eb_clR, if_pos rfl, eb_birds, eb_clR, sM.1, eb_shl1 n (by omega), eb_bdR, eb_songsM sM hn c.1 c.2.1 c.2.2, eb_obR]
      by_cases hp : p = 0
      · rw [if_pos hp] at ev
        rw [if_pos hp, ev]
      · rw [if_neg hp] at ev
        rw [if_neg hp]
        dsimp only
        by_cases h0 : (eb_F (eb_sg1 (eb_fit (fun b => m 273 (28 + 4 * b)) tb n L)) (0, nI (2 ^ n) - 1) (2 ^ n)).1 = 0
        · rw [if_pos h0] at ev
          rw [if_pos h0, ev]
        · rw [if_neg h0] at ev
          rw [if_neg h0, ev]
    · rw [eb_stI _ _ _ (by decide), eb_stI _ _ _ (by decide), eb_stI _ _ _ (by decide), eb_st]
    · rw [eb_stA _ _ _ (by decide), eb_stA _ _ _ (by decide), eb_stA _ _ _ (by decide), eb_stA _ _ _ (by decide), eb_st]
    · refine eb_E_pt fun a i hs => ?_
      unfold eb_Sc at hs
      rw [eb_sts, if_neg (by omega), eb_sts]
      by_cases q : a = 272 ∧ i = 9
      · rw [if_pos q, q.1, q.2, eb_st]
      · rw [if_neg q, eb_sts, if_neg (by omega), eb_sts, if_neg (by omega), eb_sts, if_neg (by omega), eb_sts _ 272 9, if_neg q]
  · have t9 : (ea_st m 0 1 0) 272 9 = nI L := by rw [eb_stA _ _ _ (by decide)]; exact t3
    have sM := hM (ea_st (ea_st (ea_st (ea_st (ea_st m 0 1 0) 272 0 0) 272 11 (nI L)) 272 9 0) 272 10 0) rfl rfl (by rw [eb_stI _ _ _ (by decide), eb_stI _ _ _ (by decide), eb_st])
    refine eb_of (t := (1, ea_st m 0 1 0)) ?_ (eb_of (t := (0, ea_st (ea_st (ea_st (ea_st (ea_st (ea_st m 0 1 0) 272 0 0) 272 11 (nI L)) 272 9 0) 272 10 0) 272 0 1)) ?_ ⟨eb_st (ea_st (ea_st (ea_st (ea_st (ea_st m 0 1 0) 272 0 0) 272 11 (nI L)) 272 9 0) 272 10 0) 272 0 1, fun z => absurd z eb_ne10, eb_I_cg (eb_E_pt fun a i hs => ?_) (eb_I_used h)⟩)
    · unfold f_L_songs f_X11_songs
      rw [hu, eb_clR, eb_needA sA.2.2 hb hL, if_neg c]
      rfl
    · unfold f_X12_songs
      dsimp only
      rw [eb_usesM t9, eb_clR, eb_toldM sM.2.2.2 sM.2.2.1 hb hL, if_neg c, eb_clR, if_pos rfl]
      unfold f_X12_songs_j17
      rw [eb_throwsIf1, eb_clR, if_neg eb_ne10]
    · unfold eb_Sc at hs
      dsimp only
      rw [eb_sts, if_neg (by omega), eb_sts, if_neg (by omega), eb_sts]
      by_cases q : a = 272 ∧ i = 9
      · rw [if_pos q, q.1, q.2, eb_st]
      · rw [if_neg q, eb_sts, if_neg (by omega), eb_sts, if_neg (by omega), eb_sts _ 272 9, if_neg q]
theorem eb_p_ask (h : eb_I m) : eb_P eb_I (f_L_ask m) f_X12_ask := by
  obtain ⟨n, L, tb, hn, hL, hb, t2, t3, hA, hM⟩ := eb_see h
  have sA := hA (ea_st m 0 1 0) rfl (fun _ => rfl) (fun _ => rfl)
  have hu : f_X11_useTapeUp m = some (nI L, ea_st m 0 1 0) := by
    unfold f_X11_useTapeUp
    rw [eb_bdR, t2]
    rfl
  by_cases c : L ≤ 40 ∧ L % 2 = 0 ∧ eb_so tb (L / 2) = true
  · obtain ⟨v, ev⟩ : ∃ v : Int32, v = eb_a2 (eb_as (eb_cn (eb_fit (fun b => m 273 (28 + 4 * b)) tb n L) (2 ^ n)) (fun s => eb_cn (fun i => eb_fit (fun b => m 273 (28 + 4 * b)) tb n L i && eb_sng (fun b => m 273 (28 + 4 * b)) n s i) (2 ^ n)) 6) := ⟨_, rfl⟩
    have t9 : (ea_st (ea_st m 0 1 0) 287 0 v) 272 9 = nI L := by rw [eb_stA _ _ _ (by decide), eb_stA _ _ _ (by decide)]; exact t3
    have sM := hM (ea_st (ea_st (ea_st (ea_st (ea_st (ea_st m 0 1 0) 287 0 v) 272 0 0) 272 11 (nI L)) 272 9 0) 272 10 0) rfl rfl (by rw [eb_stI _ _ _ (by decide), eb_stI _ _ _ (by decide), eb_st])
    refine eb_Pv (eb_I_used h) (v := v) (m1 := ea_st (ea_st m 0 1 0) 287 0 v) (m2 := ea_st (ea_st (ea_st (ea_st (ea_st (ea_st m 0 1 0) 287 0 v) 272 0 0) 272 11 (nI L)) 272 9 0) 272 10 0) ?_ ?_ ?_ ?_ ?_
    · unfold f_L_ask f_X11_ask
      rw [hu, eb_clR, eb_needA sA.2.2 hb hL, if_pos c, eb_cx0, eb_askA sA hn c.1 c.2.1, ← ev]
      rfl
    · unfold f_X12_ask
      rw [eb_usesM t9, eb_clR, eb_toldM sM.2.2.2 sM.2.2.1 hb hL, if_pos c, eb_clR, if_neg eb_ne10]
      unfold f_X12_ask_j17
      rw [eb_throwsIf0, eb_clR, if_pos rfl, eb_askM sM hn c.1 c.2.1 c.2.2, ← ev]
      rfl
    · rw [eb_stI _ _ _ (by decide), eb_stI _ _ _ (by decide), eb_stI _ _ _ (by decide), eb_st]
    · rw [eb_stA _ _ _ (by decide), eb_stA _ _ _ (by decide), eb_stA _ _ _ (by decide), eb_stA _ _ _ (by decide), eb_st]
    · refine eb_E_pt fun a i hs => ?_
      unfold eb_Sc at hs
      rw [eb_sts, if_neg (by omega), eb_sts]
      by_cases q : a = 272 ∧ i = 9
      · rw [if_pos q, q.1, q.2, eb_st]
      · rw [if_neg q, eb_sts, if_neg (by omega), eb_sts, if_neg (by omega), eb_sts, if_neg (by omega), eb_sts _ 272 9, if_neg q]
  · have t9 : (ea_st m 0 1 0) 272 9 = nI L := by rw [eb_stA _ _ _ (by decide)]; exact t3
    have sM := hM (ea_st (ea_st (ea_st (ea_st (ea_st m 0 1 0) 272 0 0) 272 11 (nI L)) 272 9 0) 272 10 0) rfl rfl (by rw [eb_stI _ _ _ (by decide), eb_stI _ _ _ (by decide), eb_st])
    refine eb_of (t := (1, ea_st m 0 1 0)) ?_ (eb_of (t := (0, ea_st (ea_st (ea_st (ea_st (ea_st (ea_st m 0 1 0) 272 0 0) 272 11 (nI L)) 272 9 0) 272 10 0) 272 0 1)) ?_ ⟨eb_st (ea_st (ea_st (ea_st (ea_st (ea_st m 0 1 0) 272 0 0) 272 11 (nI L)) 272 9 0) 272 10 0) 272 0 1, fun z => absurd z eb_ne10, eb_I_cg (eb_E_pt fun a i hs => ?_) (eb_I_used h)⟩)
    · unfold f_L_ask f_X11_ask
      rw [hu, eb_clR, eb_needA sA.2.2 hb hL, if_neg c]
      rfl
    · unfold f_X12_ask
      dsimp only
      rw [eb_usesM t9, eb_clR, eb_toldM sM.2.2.2 sM.2.2.1 hb hL, if_neg c, eb_clR, if_pos rfl]
      unfold f_X12_ask_j17
      rw [eb_throwsIf1, eb_clR, if_neg eb_ne10]
    · unfold eb_Sc at hs
      dsimp only
      rw [eb_sts, if_neg (by omega), eb_sts, if_neg (by omega), eb_sts]
      by_cases q : a = 272 ∧ i = 9
      · rw [if_pos q, q.1, q.2, eb_st]
      · rw [if_neg q, eb_sts, if_neg (by omega), eb_sts, if_neg (by omega), eb_sts _ 272 9, if_neg q]
end SONGSC
