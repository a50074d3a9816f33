section LAWP
variable {c : Nat → Nat} {L p n b d i ln : Nat} {m m0 m' : ea_M} {s v D w w' : Nat → Int32}
/-- a whole text of a law: where it is wrong; or its lines, its steps -/
def et_Zc (c : Nat → Nat) (L : Nat) (m0 : ea_M) (o : et_Ko) (z : ea_M) : Prop := match o with
  | .inl f => et_Kf m0 z ∧ z 49 6 = nI f
  | .inr q => ∃ p, et_KS c L m0 z p q.1 q.2.1 q.2.2.1 q.2.2.2.1 q.2.2.2.2
def et_Zm (m0 : ea_M) (o : et_Ko) (y : Int32 × ea_M) : Prop := match o with
  | .inl f => y.1 = -1 ∧ et_KF m0 y.2 ∧ y.2 272 12 = nI f
  | .inr q => y.1 = nI q.1 ∧ et_KN m0 y.2 q.1 q.2.1 q.2.2.1 q.2.2.2.1 q.2.2.2.2
def et_Zr (m0 : ea_M) (o : et_Ko) (z : (Int32 × ea_M) ⊕ Empty) : Prop := ∃ y, z = .inl y ∧ et_Zm m0 o y
def et_Zk (L : Nat) (o : et_Ko) : Prop := match o with
  | .inl f => f ≤ L
  | .inr q => q.1 ≤ 12 ∧ q.2.1 ≤ 400 ∧ et_V q.1 q.2.1 q.2.2.1 q.2.2.2.2
theorem et_lreadT (hL : L ≤ 400) (r : Nat) : ∀ (ln p n : Nat) (s v D : Nat → Int32), ln + r = 12 → n ≤ p → p ≤ L → et_V ln n s D → ∃ o : et_Ko, et_Zk L o ∧
    (∀ m0 m f, et_KS c L m0 m p ln n s v D → r + 1 < f → eb_W (ea_loop f_X8_read_s33 f (1, nI ln, m)) (et_Zc c L m0 o)) ∧
    (∀ m0 m f, et_M c L m p → et_KN m0 m ln n s v D → r < f → eb_W (ea_loop (f_X12_readAll_s28 0) f (nI ln, m)) (et_Zr m0 o)) := by
  induction r with
  | zero =>
    intro ln p n s v D hr hn hp hV
    have hsb := (et_sb_spec (c := c) hL hp).2.1
    refine ⟨.inl (et_sb c L p), hsb, fun m0 m f hS hf => ?_, fun m0 m f hM hN hf => ?_⟩
    · obtain ⟨f, rfl⟩ : ∃ f', f = f' + 1 + 1 := ⟨f - 2, by omega⟩
      refine et_lp ?_
      unfold f_X8_read_s33
      dsimp only
      rw [if_neg (by decide), if_neg (show ¬ 12 < nI ln from (show ¬ nI 12 < nI ln from nI_nlt (by omega) (by decide))), if_pos (show 12 ≤ nI ln from (show nI 12 ≤ nI ln from nI_le (by omega) (by omega))), et_refuse hS.1, eb_clR]
      unfold f_X8_read_j63 f_X8_read_j96 f_X8_read_j97
      rw [if_pos rfl]
      refine eb_some (et_lp ?_)
      dsimp only
      rw [if_pos rfl]
      exact eb_some ⟨eb_fr_st hS.2.2.2.2.2 (Or.inl rfl) _ _, eb_st m 49 6 (nI (et_sb c L p))⟩
    · obtain ⟨f, rfl⟩ : ∃ f', f = f' + 1 := ⟨f - 1, by omega⟩
      refine et_lp ?_
      unfold f_X12_readAll_s28 f_X12_readLine
      dsimp only
      refine eb_cl (P := fun z => z.1 = 0 ∧ et_KF m0 z.2 ∧ z.2 272 12 = nI (et_sb c L p)) (et_mLet hL hM fun r2 m1 k1 k2 => ?_) fun r9 m8 h8 => ?_
      · rw [if_pos rfl]
        unfold f_X12_readLine_j16
        rw [if_pos (show 12 ≤ nI ln from (show nI 12 ≤ nI ln from nI_le (by omega) (by omega)))]
        exact eb_some ⟨rfl, et_KF_F hN.2.2.2 k1, k2.2.1⟩
      · obtain ⟨e8, h8, h12⟩ := h8
        dsimp only at e8 h8 h12
        rw [e8, if_pos rfl]
        exact eb_some ⟨_, rfl, rfl, h8, h12⟩
  | succ r ih =>
    intro ln p n s v D hr hn hp hV
    obtain ⟨o1, ok1, oc1, om1⟩ := et_lline (c := c) (v := v) hL (show ln < 12 by omega) hn hp hV
    have cls : ∀ (o : et_Ko) (m0 m : ea_M) (f : Nat), et_KS c L m0 m p ln n s v D → (∀ z, et_KC c L m0 (ln + 1) o1 z → eb_W (f_X8_read_j63 (nI ln) z.1 z.2) (Sum.elim (fun y => eb_W (ea_loop f_X8_read_s33 f y) (et_Zc c L m0 o)) (et_Zc c L m0 o))) → eb_W (ea_loop f_X8_read_s33 (f + 1) (1, nI ln, m)) (et_Zc c L m0 o) := fun o m0 m f hS hK => by
      refine et_lp ?_
      unfold f_X8_read_s33
      dsimp only
      rw [if_neg (by decide), if_neg (show ¬ 12 < nI ln from (show ¬ nI 12 < nI ln from nI_nlt (by omega) (by decide))), if_neg (show ¬ 12 ≤ nI ln from (show ¬ nI 12 ≤ nI ln from nI_ge (by omega) (by decide)))]
      exact eb_bind (oc1 m0 m hS) hK
    have mdl : ∀ (o : et_Ko) (m0 m : ea_M) (f : Nat), et_M c L m p → et_KN m0 m ln n s v D → (∀ r9 m8, et_KE c L m0 (ln + 1) o1 (r9, m8) → eb_W (if r9 = 0 then some (.inr (.inl ((-1), m8))) else ea_cl (f_X12_blanks m8) fun r11 m10 => ea_bd (m10 272 10) fun x12 => ea_bd (m10 272 11) fun x13 => if x12 = x13 then some (.inr (.inl (nI (ln + 1), m10))) else ea_cl (f_X12_isAt 59 59 m10) fun r15 m14 => if r15 = 0 then some (.inr (.inl ((-1), m14))) else ea_bd (m14 272 10) fun x16 => ea_bd (ea_st m14 272 10 (x16 + 1)) fun m17 => some (.inl (nI (ln + 1), m17))) (Sum.elim (fun y => eb_W (ea_loop (f_X12_readAll_s28 0) f y) (et_Zr m0 o)) (et_Zr m0 o))) → eb_W (ea_loop (f_X12_readAll_s28 0) (f + 1) (nI ln, m)) (et_Zr m0 o) := fun o m0 m f hM hN hK => by
      refine et_lp ?_
      unfold f_X12_readAll_s28 f_X12_readLine
      dsimp only
      rw [nI_1]
      refine eb_cl (P := et_KE c L m0 (ln + 1) o1) (et_mLet hL hM fun r2 m1 k1 k2 => ?_) fun r9 m8 h8 => hK r9 m8 h8
      rw [if_pos rfl]
      unfold f_X12_readLine_j16
      rw [if_neg (show ¬ 12 ≤ nI ln from (show ¬ nI 12 ≤ nI ln from nI_ge (by omega) (by decide))), if_pos rfl]
      refine eb_cl (om1 m0 m1 k2 (et_KN_F hN k1)) fun r7 m6 h6 => ?_
      have h01 : r7 = 0 ∨ r7 = 1 := by
        cases o1 with
        | inl f => exact Or.inl h6.1
        | inr q => exact Or.inr h6.1
      rcases h01 with rfl | rfl
      · exact eb_some h6
      · exact eb_some h6
    cases o1 with
    | inl g =>
      refine ⟨.inl g, ok1, fun m0 m f hS hf => ?_, fun m0 m f hM hN hf => ?_⟩
      · obtain ⟨f, rfl⟩ : ∃ f', f = f' + 1 + 1 := ⟨f - 2, by omega⟩
        refine cls _ m0 m _ hS fun z hz => ?_
        obtain ⟨e1, h1, h6⟩ := hz
        unfold f_X8_read_j63 f_X8_read_j96 f_X8_read_j97
        rw [e1, if_pos rfl]
        refine eb_some (et_lp ?_)
        unfold f_X8_read_s33
        dsimp only
        rw [if_pos rfl]
        exact eb_some ⟨h1, h6⟩
      · obtain ⟨f, rfl⟩ : ∃ f', f = f' + 1 := ⟨f - 1, by omega⟩
        refine mdl _ m0 m _ hM hN fun r9 m8 h8 => ?_
        obtain ⟨e1, h1, h12⟩ := h8
        dsimp only at e1 h1 h12
        rw [e1, if_pos rfl]
        exact eb_some ⟨_, rfl, rfl, h1, h12⟩
    | inr q =>
      obtain ⟨a1, a2, a3, a4⟩ := ok1
      have hsb := (et_sb_spec (c := c) hL a2).2.1
      have hk := et_kd_le (c := c) (L := L) (b := et_sb c L q.1)
      have mdl2 : ∀ (o : et_Ko) (m0 m : ea_M) (f : Nat), et_M c L m p → et_KN m0 m ln n s v D → (∀ m10, et_M c L m10 q.1 → et_KN m0 m10 (ln + 1) q.2.1 q.2.2.1 q.2.2.2.1 q.2.2.2.2 → m10 272 12 = nI (et_sb c L q.1) → m10 272 10 = nI (et_sb c L q.1) → eb_W (if nI (et_sb c L q.1) = nI L then some (.inr (.inl (nI (ln + 1), m10))) else if (if et_sb c L q.1 < L ∧ 59 ≤ c (et_sb c L q.1) ∧ c (et_sb c L q.1) ≤ 59 then (1 : Int32) else 0) = 0 then some (.inr (.inl ((-1), m10))) else some (.inl (nI (ln + 1), ea_st m10 272 10 (nI (et_sb c L q.1 + 1))))) (Sum.elim (fun y => eb_W (ea_loop (f_X12_readAll_s28 0) f y) (et_Zr m0 o)) (et_Zr m0 o))) → eb_W (ea_loop (f_X12_readAll_s28 0) (f + 1) (nI ln, m)) (et_Zr m0 o) := fun o m0 m f hM hN hK => by
        refine mdl o m0 m f hM hN fun r9 m8 h8 => ?_
        obtain ⟨e1, M8, N8⟩ := h8
        dsimp only at e1 M8 N8
        rw [e1, if_neg (by decide)]
        refine eb_cl (et_mBl hL M8) fun r11 m10 h10 => ?_
        obtain ⟨l1, l12, l10⟩ := h10
        dsimp only at l1 l12 l10
        have l11 : m10 272 11 = nI L := by rw [l1 272 11 (by omega)]; exact M8.2.2.1
        have lT := et_F_T2 l1 M8.2.2.2
        rw [eb_bdR, l10, eb_bdR, l11, show f_X12_isAt 59 59 m10 = some (if et_sb c L q.1 < L ∧ 59 ≤ c (et_sb c L q.1) ∧ c (et_sb c L q.1) ≤ 59 then 1 else 0, m10) from et_isAt hL (by decide) (by decide) lT l10 l11 hsb, eb_clR, eb_bdR, l10, eb_bdR, nI_1]
        exact hK m10 (et_M_sb hL a2 l10 l11 lT) (et_KN_F N8 l1) l12 l10
      by_cases hk0 : et_kd c L (et_sb c L q.1) = 0
      · have hsL := et_kd0.mp hk0
        refine ⟨.inr (ln + 1, q.2), ⟨by dsimp only; omega, by dsimp only; omega, a4⟩, fun m0 m f hS hf => ?_, fun m0 m f hM hN hf => ?_⟩
        · obtain ⟨f, rfl⟩ : ∃ f', f = f' + 1 + 1 := ⟨f - 2, by omega⟩
          refine cls _ m0 m _ hS fun z hz => ?_
          obtain ⟨e1, h1⟩ := hz
          unfold f_X8_read_j63 f_X8_read_j96 f_X8_read_j97
          rw [e1, if_neg (by decide), eb_bdR, h1.1.1.2.2.1, if_pos (by rw [hk0]; rfl)]
          refine eb_some (et_lp ?_)
          unfold f_X8_read_s33
          dsimp only
          rw [if_pos rfl]
          exact eb_some ⟨_, h1⟩
        · obtain ⟨f, rfl⟩ : ∃ f', f = f' + 1 := ⟨f - 1, by omega⟩
          refine mdl2 _ m0 m _ hM hN fun m10 M10 N10 l12 l10 => ?_
          rw [if_pos (by rw [show et_sb c L q.1 = L by omega])]
          exact eb_some ⟨_, rfl, rfl, N10⟩
      · have hlt : et_sb c L q.1 < L := by
          by_cases q' : et_sb c L q.1 < L
          · exact q'
          · exact absurd (et_kd0.mpr q') hk0
        cases hs : et_sg c L q.1 59 with
        | false =>
          have hn := of_decide_eq_false hs
          refine ⟨.inl (et_sb c L q.1), hsb, fun m0 m f hS hf => ?_, fun m0 m f hM hN hf => ?_⟩
          · obtain ⟨f, rfl⟩ : ∃ f', f = f' + 1 + 1 := ⟨f - 2, by omega⟩
            refine cls _ m0 m _ hS fun z hz => ?_
            obtain ⟨e1, h1⟩ := hz
            unfold f_X8_read_j63 f_X8_read_j96 f_X8_read_j97
            rw [e1, if_neg (by decide), eb_bdR, h1.1.1.2.2.1, if_neg (show ¬ nI (et_kd c L (et_sb c L q.1)) = 0 from (show ¬ nI (et_kd c L (et_sb c L q.1)) = nI 0 by rw [nI_eq (by omega) (by decide)]; exact hk0))]
            refine et_cSign (x := 59) hL (by decide) et_59 h1.1 (fun _ m17 g1 g2 => ?_) (fun h => by rw [hs] at h; cases h)
            rw [if_pos rfl]
            refine eb_some (et_lp ?_)
            unfold f_X8_read_s33
            dsimp only
            rw [if_pos rfl]
            exact eb_some ⟨et_Kf_fa h1.2.2.2.2.2 g1, g2⟩
          · obtain ⟨f, rfl⟩ : ∃ f', f = f' + 1 := ⟨f - 1, by omega⟩
            refine mdl2 _ m0 m _ hM hN fun m10 M10 N10 l12 l10 => ?_
            rw [if_neg (by rw [nI_eq (by omega) (by omega)]; omega), if_neg (show ¬ (et_sb c L q.1 < L ∧ 59 ≤ c (et_sb c L q.1) ∧ c (et_sb c L q.1) ≤ 59) from fun z => hn ⟨z.1, by omega⟩), if_pos rfl]
            exact eb_some ⟨_, rfl, rfl, N10.2.2.2, l12⟩
        | true =>
          have hn := of_decide_eq_true hs
          have e3 := et_te3 (et_sg_kd et_59.2 hs)
          have hq2 := (et_te_le (c := c) hL a2).2.1
          have hq1 := (et_te_le (c := c) hL a2).1
          obtain ⟨o, ok, oc, om⟩ := ih (ln + 1) (et_te c L q.1) q.2.1 q.2.2.1 q.2.2.2.1 q.2.2.2.2 (by omega) (by omega) hq2 a4
          refine ⟨o, ok, fun m0 m f hS hf => ?_, fun m0 m f hM hN hf => ?_⟩
          · obtain ⟨f, rfl⟩ : ∃ f', f = f' + 1 := ⟨f - 1, by omega⟩
            refine cls _ m0 m _ hS fun z hz => ?_
            obtain ⟨e1, h1⟩ := hz
            unfold f_X8_read_j63
            rw [e1, if_neg (by decide), eb_bdR, h1.1.1.2.2.1, if_neg (show ¬ nI (et_kd c L (et_sb c L q.1)) = 0 from (show ¬ nI (et_kd c L (et_sb c L q.1)) = nI 0 by rw [nI_eq (by omega) (by decide)]; exact hk0))]
            refine et_cSign (x := 59) hL (by decide) et_59 h1.1 (fun h => by rw [hs] at h; cases h) (fun _ m17 g1 g2 => ?_)
            rw [if_neg (by decide)]
            unfold f_X8_read_j97
            rw [nI_1]
            exact eb_some (oc m0 m17 f (et_KS_fa h1 g1 g2) (by omega))
          · obtain ⟨f, rfl⟩ : ∃ f', f = f' + 1 := ⟨f - 1, by omega⟩
            refine mdl2 _ m0 m _ hM hN fun m10 M10 N10 l12 l10 => ?_
            rw [if_neg (by rw [nI_eq (by omega) (by omega)]; omega), if_pos (show et_sb c L q.1 < L ∧ 59 ≤ c (et_sb c L q.1) ∧ c (et_sb c L q.1) ≤ 59 from ⟨hn.1, by omega, by omega⟩), if_neg (by decide)]
            have kF : et_F m10 (ea_st m10 272 10 (nI (et_sb c L q.1 + 1))) := et_F_st (et_F_refl _) (Or.inl rfl) _
            refine eb_some (om m0 _ f (et_M_at hL hq2 (by rw [eb_st, e3]) (by rw [eb_stI _ _ _ (by decide)]; exact M10.2.2.1) (et_F_T2 kF M10.2.2.2)) (et_KN_F N10 kF) (by omega))
/-- both readings of a law's text -/
theorem et_lread (hL : L ≤ 400) (hc : ∀ j, j < 400 → c j < 256) : ∃ o : et_Ko, et_Zk L o ∧
    (∀ m, et_T1 c m → eb_W (f_X8_read (nI L) m) (fun z => et_Zc c L m o z.2 ∧ z.1 = z.2 49 6)) ∧
    (∀ m, et_T2 c m → m 272 9 = nI L → ∃ m2, (∀ a i, ¬ (a = 272 ∧ (i = 0 ∨ i = 9 ∨ i = 10 ∨ i = 11 ∨ i = 16)) → m2 a i = m a i) ∧ m2 272 0 = 0 ∧ m2 272 9 = 0 ∧ eb_W (f_X12_readAll 0 m) (et_Zm m2 o)) := by
  have hk := et_kd_le (c := c) (L := L) (b := et_sb c L 0)
  obtain ⟨s1, s2, _, _⟩ := et_sb_spec (c := c) hL (Nat.zero_le L)
  have cls : ∀ (o : et_Ko) (m : ea_M), et_T1 c m → (∀ m1, et_KS c L m m1 0 0 0 (fun _ => 0) (fun _ => 0) (fun _ => 0) → eb_W (if nI (et_kd c L (et_sb c L 0)) = 0 then f_X8_read_j30 0 m1 else f_X8_read_j30 1 m1) (fun z => et_Zc c L m o z.2 ∧ z.1 = z.2 49 6)) → eb_W (f_X8_read (nI L) m) (fun z => et_Zc c L m o z.2 ∧ z.1 = z.2 49 6) := fun o m hT hK => by
    unfold f_X8_read f_X7_clear
    rw [eb_bdR, eb_bdR, eb_clR]
    have r : ∀ a i, a ≠ 38 → ea_st (ea_st m 38 0 0) 38 1 0 a i = m a i := fun a i q => by rw [eb_stA _ _ _ q, eb_stA _ _ _ q]
    refine et_cOpen hL (by decide) (fun j hj => by rw [r 1 j (by decide)]; exact hT j hj) fun r4 m3 k1 k2 => ?_
    rw [eb_bdR, k2.1.2.2.1]
    refine hK m3 ⟨k2, ?_, ?_, fun i hi => by omega, fun i hi => by omega, fun b hb => ?_⟩
    · rw [k1 38 (by decide), eb_stI _ _ _ (by decide), eb_st]; rfl
    · rw [k1 38 (by decide), eb_st]; rfl
    · rw [k1 b (by omega)]
      exact funext fun i => r b i (by omega)
  have mdl : ∀ (o : et_Ko) (m : ea_M), et_T2 c m → m 272 9 = nI L → (∀ m2 m4, et_M c L m4 0 → et_KN m2 m4 0 0 (fun _ => 0) (fun _ => 0) (fun _ => 0) → eb_W (if nI (et_sb c L 0) = nI L then some (0, m4) else ea_sl (ea_loop (f_X12_readAll_s28 0) ea_fuel (0, m4)) (fun t => some t) (fun z => nomatch z)) (et_Zm m2 o)) → ∃ m2, (∀ a i, ¬ (a = 272 ∧ (i = 0 ∨ i = 9 ∨ i = 10 ∨ i = 11 ∨ i = 16)) → m2 a i = m a i) ∧ m2 272 0 = 0 ∧ m2 272 9 = 0 ∧ eb_W (f_X12_readAll 0 m) (et_Zm m2 o) := fun o m hT h9 hK => by
    obtain ⟨m2, e2⟩ : ∃ m2, m2 = ea_st (ea_st (ea_st (ea_st (ea_st m 272 0 0) 272 11 (nI L)) 272 9 0) 272 10 0) 272 16 0 := ⟨_, rfl⟩
    have hu : f_X12_uses m = some (0, ea_st (ea_st (ea_st (ea_st m 272 0 0) 272 11 (nI L)) 272 9 0) 272 10 0) := by
      unfold f_X12_uses
      rw [eb_bdR, eb_bdR, eb_stI _ _ _ (by decide), h9]
      rfl
    have a2 : ∀ a i, ¬ (a = 272 ∧ (i = 0 ∨ i = 9 ∨ i = 10 ∨ i = 11 ∨ i = 16)) → m2 a i = m a i := fun a i q => by
      rw [e2, eb_sts, if_neg (by omega), eb_sts, if_neg (by omega), eb_sts, if_neg (by omega), eb_sts, if_neg (by omega), eb_sts, if_neg (by omega)]
    have b0 : m2 272 0 = 0 := by rw [e2, eb_stI _ _ _ (by decide), eb_stI _ _ _ (by decide), eb_stI _ _ _ (by decide), eb_stI _ _ _ (by decide), eb_st]
    have b9 : m2 272 9 = 0 := by rw [e2, eb_stI _ _ _ (by decide), eb_stI _ _ _ (by decide), eb_st]
    have b10 : m2 272 10 = nI 0 := by rw [e2, eb_stI _ _ _ (by decide), eb_st]; rfl
    have b11 : m2 272 11 = nI L := by rw [e2, eb_stI _ _ _ (by decide), eb_stI _ _ _ (by decide), eb_stI _ _ _ (by decide), eb_st]
    have b16 : m2 272 16 = nI 0 := by rw [e2, eb_st]; rfl
    have bT : et_T2 c m2 := fun j hj => by rw [a2 278 j (by omega)]; exact hT j hj
    refine ⟨m2, a2, b0, b9, ?_⟩
    unfold f_X12_readAll
    rw [hu, eb_clR, eb_bdR, ← e2]
    clear e2 hu
    have M0 : et_M c L m2 0 := et_M_at hL (Nat.zero_le _) b10 b11 bT
    refine eb_cl (et_mBl hL M0) fun r5 m4 hm4 => ?_
    obtain ⟨k1, c12, c10⟩ := hm4
    dsimp only at k1 c12 c10
    have d11 : m4 272 11 = nI L := by rw [k1 272 11 (by omega)]; exact b11
    rw [eb_bdR, c10, eb_bdR, d11]
    exact hK m2 m4 (et_M_sb hL (Nat.zero_le _) c10 d11 (et_F_T2 k1 bT)) (et_KN_F (m := m2) ⟨b16, fun i hi => by omega, fun j hj => by omega, fun _ _ _ _ => rfl⟩ k1)
  by_cases hk0 : et_kd c L (et_sb c L 0) = 0
  · have hsL := et_kd0.mp hk0
    refine ⟨.inr (0, 0, fun _ => 0, fun _ => 0, fun _ => 0), ⟨by decide, by decide, fun k hk => by dsimp only at hk; omega⟩, fun m hT => cls _ m hT fun m1 hS1 => ?_, fun m hT h9 => mdl _ m hT h9 fun m2 m4 hM hN => ?_⟩
    · rw [if_pos (by rw [hk0]; rfl)]
      unfold f_X8_read_j30
      rw [show ea_loop f_X8_read_s33 ea_fuel (0, 0, m1) = some m1 from eb_loop_inr (by unfold f_X8_read_s33; rw [if_pos rfl]) 99999, eb_obR]
      exact eb_bd (eb_some ⟨⟨_, hS1⟩, rfl⟩)
    · rw [if_pos (by rw [show et_sb c L 0 = L by omega])]
      exact eb_some ⟨rfl, hN⟩
  · have hlt : et_sb c L 0 < L := by
      by_cases q' : et_sb c L 0 < L
      · exact q'
      · exact absurd (et_kd0.mpr q') hk0
    obtain ⟨o, ok, oc, om⟩ := et_lreadT (c := c) hL 12 0 0 0 (fun _ => 0) (fun _ => 0) (fun _ => 0) (by decide) (Nat.le_refl _) (Nat.zero_le _) (fun k hk => by omega)
    refine ⟨o, ok, fun m hT => cls _ m hT fun m1 hS1 => ?_, fun m hT h9 => mdl _ m hT h9 fun m2 m4 hM hN => ?_⟩
    · rw [if_neg (show ¬ nI (et_kd c L (et_sb c L 0)) = 0 from (show ¬ nI (et_kd c L (et_sb c L 0)) = nI 0 by rw [nI_eq (by omega) (by decide)]; exact hk0))]
      unfold f_X8_read_j30
      exact eb_bind (oc m m1 ea_fuel hS1 (by decide)) fun z hz => eb_bd (eb_some ⟨hz, rfl⟩)
    · rw [if_neg (by rw [nI_eq (by omega) (by omega)]; omega)]
      obtain ⟨z, ez, y, rfl, hy⟩ := om m2 m4 ea_fuel hM hN (by decide)
      rw [show ea_loop (f_X12_readAll_s28 0) ea_fuel (0, m4) = some (Sum.inl y) from ez]
      exact ⟨y, rfl, hy⟩
theorem et_ty_w (w : Nat → Int32) (k : Nat) : ∀ (i : Nat) (S : List Bool), eb_ty w k i S = et_ty (fun i => w (531 + 2 * i)) k i S := by
  induction k with
  | zero => intro i S; rfl
  | succ k ih =>
    intro i S
    unfold eb_ty et_ty
    cases eb_t1 (w (531 + 2 * i)) S with
    | none => rw [eb_obN, eb_obN]
    | some T => rw [eb_obR, eb_obR, ih (i + 1) T]
theorem et_C_law {cc : Nat → Nat → Int32} {x : Int32} (h : eb_C cc w) : eb_C cc (upd w 4 x) := by
  have g : ∀ j, j ≠ 4 → upd w 4 x j = w j := fun j q1 => et_u q1
  refine et_C_hd h (fun i j h14 hi => rfl) ?_ ?_ (g _ (by decide)) (g _ (by decide)) (g _ (by decide)) (g _ (by decide)) (fun j q1 _ => g j (by omega))
  · unfold eb_C1
    rw [g 7 (by decide), g 8 (by decide), g 9 (by decide), g 10 (by decide), g 6 (by decide), g 5 (by decide), g 12 (by decide), g 3 (by decide), g 0 (by decide), g 1 (by decide), g 2 (by decide), g 11 (by decide)]
    exact h.1
  · unfold eb_C2
    rw [eb_b_cg (g 0 (by decide)), eb_nc_cg (g 1 (by decide)), eb_k_cg (g 2 (by decide)), eb_sz_cg (g 11 (by decide)), g 7 (by decide), g 8 (by decide), g 9 (by decide), g 10 (by decide), g 5 (by decide), g 6 (by decide), g 3 (by decide), g 0 (by decide), g 1 (by decide), g 2 (by decide), g 11 (by decide)]
    exact h.2.1
theorem et_lawCopy (mm : ea_M) (x : Int32) : eb_W (ea_loop (f_X12_law_s52 x) ea_fuel (0, mm)) (fun z => (∀ a, a ≠ 273 → z a = mm a) ∧ ∀ j, z 273 j = if 482 ≤ j ∧ j < 1331 then mm 273 (849 + j) else mm 273 j) := by
  refine eb_for 849 (fun k y => y.1 = nI k ∧ (∀ a, a ≠ 273 → y.2 a = mm a) ∧ ∀ j, y.2 273 j = if 482 ≤ j ∧ j < 482 + k then mm 273 (849 + j) else mm 273 j) ?_ ?_ (by unfold ea_fuel; omega) ⟨rfl, fun _ _ => rfl, fun j => by rw [if_neg (by omega)]⟩
  · rintro k ⟨y, ms⟩ hk ⟨g1, g2, g3⟩
    dsimp only at g1 g2 g3
    subst g1
    unfold f_X12_law_s52
    dsimp only
    rw [if_neg (show ¬ 849 ≤ nI k from (show ¬ nI 849 ≤ nI k from nI_ge hk (by decide))), show (1331 : Int32) + nI k = nI (1331 + k) from nI_add 1331 k, eb_gN (by omega) (by decide), nI_clamp (by omega), eb_bdR, show (482 : Int32) + nI k = nI (482 + k) from nI_add 482 k, eb_gN (by omega) (by decide), nI_clamp (by omega), eb_bdR, nI_1]
    refine eb_some ⟨rfl, fun a ha => ?_, fun j => ?_⟩
    · show ea_st ms 273 (482 + k) _ a = _
      rw [eb_stA _ _ _ ha]; exact g2 a ha
    · dsimp only
      rw [eb_sts]
      by_cases q : j = 482 + k
      · rw [if_pos ⟨rfl, q⟩, g3, if_neg (by omega), if_pos (by omega), show 849 + j = 1331 + k by omega]
      · rw [if_neg (fun z => q z.2), g3]
        by_cases q2 : 482 ≤ j ∧ j < 482 + k
        · rw [if_pos q2, if_pos (by omega)]
        · rw [if_neg q2, if_neg (by omega)]
  · rintro ⟨y, ms⟩ ⟨g1, g2, g3⟩
    dsimp only at g1 g2 g3
    subst g1
    unfold f_X12_law_s52
    dsimp only
    rw [if_pos (show 849 ≤ nI 849 from (show nI 849 ≤ nI 849 from nI_le (Nat.le_refl _) (by decide)))]
    exact eb_some ⟨g2, g3⟩
theorem eb_p_law (h : eb_I m) : eb_P eb_I (f_L_law m) f_X12_law := by
  obtain ⟨L, hL, t1, t2, t3⟩ := id h.1.2.2.2.2.1
  obtain ⟨c, hT1, hT2⟩ := et_Tof t3
  obtain ⟨o, ok, oc, om⟩ := et_lread (c := c) hL (fun j hj => (hT1 j hj).1)
  unfold f_L_law f_X11_law
  rw [show f_X11_useTapeUp m = some (m 0 1, ea_st m 0 1 0) from rfl, eb_clR, t1]
  obtain ⟨⟨r4, m3⟩, e3, z3, z4⟩ := oc (ea_st m 0 1 0) (fun j hj => by rw [eb_stA _ _ _ (by decide)]; exact hT1 j hj)
  dsimp only at z3 z4
  rw [e3, eb_clR, eb_bdR, eb_bdR, eb_st]
  have f3 : et_Kf (ea_st m 0 1 0) m3 := by
    cases o with
    | inl f => exact z3.1
    | inr q => obtain ⟨p, hp⟩ := z3; exact hp.2.2.2.2.2
  have a3 : ∀ a i, a ≠ 49 → ¬ (38 ≤ a ∧ a ≤ 43) → ¬ (a = 0 ∧ i = 1) → m3 a i = m a i := fun a i q1 q2 q3 => by rw [f3 a (by omega), eb_sts, if_neg q3]
  have a301 : m3 0 1 = 0 := by rw [f3 0 (by omega), eb_st]
  cases o with
  | inl f =>
    have hf : r4 = nI f := z4.trans z3.2
    rw [if_neg (by rw [hf]; exact et_nI_ne (Nat.le_trans ok hL))]
    refine eb_of (t := (1, ea_st m3 0 2 r4)) rfl ?_
    dsimp only
    obtain ⟨m7, e7⟩ : ∃ m7, m7 = ea_st m3 0 2 r4 := ⟨_, rfl⟩
    have a7 : ∀ a i, a ≠ 49 → ¬ (38 ≤ a ∧ a ≤ 43) → ¬ (a = 0 ∧ (i = 1 ∨ i = 2)) → m7 a i = m a i := fun a i q1 q2 q3 => by rw [e7, eb_sts, if_neg (by omega)]; exact a3 a i q1 q2 (by omega)
    have a71 : m7 0 1 = 0 := by rw [e7, eb_stI _ _ _ (by decide)]; exact a301
    have a72 : m7 0 2 = nI f := by rw [e7, eb_st, hf]
    rw [← e7]
    clear e7
    obtain ⟨m2, b2, c0, c9, hr⟩ := om m7 (fun j hj => by rw [a7 278 j (by omega) (by omega) (by omega)]; exact hT2 j hj) (by rw [a7 272 9 (by omega) (by omega) (by omega)]; exact t2)
    unfold f_X12_law
    refine eb_cl hr fun r2 m1 h1 => ?_
    obtain ⟨e1, k1, k12⟩ := h1
    dsimp only at e1 k1 k12
    rw [e1, if_neg (by decide), eb_bdR, k12]
    unfold f_X12_law_j19 f_X12_law_j32
    rw [eb_bdR, if_neg (by decide), eb_throwsIf1, eb_clR, if_neg (by decide)]
    have y1 : ∀ a i, ¬ (a = 272 ∧ (i = 0 ∨ i = 9 ∨ i = 10 ∨ i = 11 ∨ i = 12 ∨ i = 13 ∨ i = 14 ∨ i = 16)) → ¬ (a = 273 ∧ 1331 ≤ i) → ea_st (ea_st m1 272 14 (nI f)) 272 0 1 a i = m7 a i := fun a i q1 q2 => by
      rw [eb_sts, if_neg (by omega), eb_sts, if_neg (by omega), k1 a i (by omega) q2, b2 a i (by omega)]
    refine eb_some ?_
    dsimp only
    refine ⟨eb_st (ea_st m1 272 14 (nI f)) 272 0 1, fun z => absurd z (by decide), et_I_text h (fun a i q1 q2 q3 => ?_) ?_ (fun a i q1 q2 => ?_) ?_ ?_ ?_⟩
    · unfold eb_NJ at q1
      rw [y1 a i (by omega) (by omega), a7 a i (by omega) (by omega) q2]
    · rw [y1 0 18 (by omega) (by omega), a7 0 18 (by omega) (by omega) (by omega)]
    · rw [y1 a i (by omega) (by omega), a7 a i (by omega) (by omega) (by omega)]
    · rw [y1 0 1 (by omega) (by omega)]; exact a71
    · rw [eb_stI _ _ _ (by decide), eb_stI _ _ _ (by decide), k1 272 9 (by omega) (by omega)]; exact c9
    · rw [y1 0 2 (by omega) (by omega), a72, eb_stI _ _ _ (by decide), eb_st]
  | inr q =>
    obtain ⟨p, hS, g0, g1, g2, g3, _⟩ := z3
    obtain ⟨q12, q400, qV⟩ := ok
    have hf : r4 = -1 := z4.trans hS.2.1
    rw [hf, if_pos rfl]
    obtain ⟨m5, e5⟩ : ∃ m5, m5 = ea_st m3 0 2 (-1) := ⟨_, rfl⟩
    rw [← e5]
    have a5 : ∀ a i, a ≠ 0 → m5 a i = m3 a i := fun a i q1 => by rw [e5, eb_stA _ _ _ q1]
    have a5m : ∀ a i, a ≠ 49 → ¬ (38 ≤ a ∧ a ≤ 43) → ¬ (a = 0 ∧ (i = 1 ∨ i = 2)) → m5 a i = m a i := fun a i q1 q2 q3 => by rw [e5, eb_sts, if_neg (by omega)]; exact a3 a i q1 q2 (by omega)
    have a51 : m5 0 1 = 0 := by rw [e5, eb_stI _ _ _ (by decide)]; exact a301
    have a52 : m5 0 2 = -1 := by rw [e5, eb_st]
    clear e5
    obtain ⟨⟨r8, m7⟩, e7, u1, u2, u3, u4, u5⟩ := eb_copyL 16 38 (by omega) (m := m5) q400 (by rw [a5 38 1 (by decide)]; exact g1)
    dsimp only at u1 u2 u3 u4 u5
    rw [e7, eb_clR, show f_X11_forgetActs m7 = some (0, ea_st m7 0 13 0) from rfl, eb_clR, eb_forget, eb_clR, eb_bdR]
    have a160 : ea_st (ea_st m7 0 13 0) 0 18 0 16 0 = nI q.1 := by rw [eb_stA _ _ _ (by decide), eb_stA _ _ _ (by decide), u1, a5 38 0 (by decide)]; exact g0
    rw [a160]
    refine eb_of (t := (0, ea_st (ea_st (ea_st m7 0 13 0) 0 18 0) 287 0 (nI q.1))) rfl ?_
    dsimp only
    obtain ⟨mA, eA⟩ : ∃ mA, mA = ea_st (ea_st (ea_st m7 0 13 0) 0 18 0) 287 0 (nI q.1) := ⟨_, rfl⟩
    rw [← eA]
    have n1 : ∀ a i, ¬ (16 ≤ a ∧ a < 22) → a ≠ 49 → ¬ (38 ≤ a ∧ a ≤ 43) → a ≠ 287 → ¬ (a = 0 ∧ (i = 1 ∨ i = 2 ∨ i = 13 ∨ i = 18)) → mA a i = m a i := fun a i q1 q2 q3 q4 q5 => by
      rw [eA, eb_sts, if_neg (by omega), eb_sts, if_neg (by omega), eb_sts, if_neg (by omega), u5 a (by omega), a5m a i q2 q3 (by omega)]
    have n7 : ∀ a i, a ≠ 0 → a ≠ 287 → mA a i = m7 a i := fun a i q1 q2 => by rw [eA, eb_stA _ _ _ q2, eb_stA _ _ _ q1, eb_stA _ _ _ q1]
    have n13 : mA 0 13 = 0 := by rw [eA, eb_stA _ _ _ (by decide), eb_stI _ _ _ (by decide), eb_st]
    have n18 : mA 0 18 = 0 := by rw [eA, eb_stA _ _ _ (by decide), eb_st]
    have n01 : mA 0 1 = 0 := by rw [eA, eb_stA _ _ _ (by decide), eb_stI _ _ _ (by decide), eb_stI _ _ _ (by decide), u5 0 (by omega)]; exact a51
    have n02 : mA 0 2 = -1 := by rw [eA, eb_stA _ _ _ (by decide), eb_stI _ _ _ (by decide), eb_stI _ _ _ (by decide), u5 0 (by omega)]; exact a52
    have n287 : mA 287 0 = nI q.1 := by rw [eA, eb_st]
    clear eA a160
    obtain ⟨m2, b2, c0, c9, hr⟩ := om mA (fun j hj => by rw [n1 278 j (by omega) (by omega) (by omega) (by omega) (by omega)]; exact hT2 j hj) (by rw [n1 272 9 (by omega) (by omega) (by omega) (by omega) (by omega)]; exact t2)
    unfold f_X12_law
    refine eb_cl hr fun r2 m1 h1 => ?_
    obtain ⟨e1, k16, ks, kd, kF⟩ := h1
    dsimp only at e1 k16 ks kd kF
    rw [e1, if_pos (nI_pos' (by omega))]
    unfold f_X12_law_j19 f_X12_law_j32
    rw [eb_bdR, if_pos (nI_pos' (by omega)), eb_throwsIf0, eb_clR, if_pos rfl, eb_bdR]
    refine eb_bind (et_lawCopy _ _) fun z hz => eb_bd (eb_bd (eb_some ?_))
    obtain ⟨z1, z2⟩ := hz
    have y1 : ∀ a i, a ≠ 273 → ¬ (a = 272 ∧ (i = 0 ∨ i = 7 ∨ i = 9 ∨ i = 10 ∨ i = 11 ∨ i = 12 ∨ i = 13 ∨ i = 14 ∨ i = 16)) → ea_st (ea_st z 273 4 1) 272 7 0 a i = mA a i := fun a i q1 q2 => by
      rw [eb_sts, if_neg (by omega), eb_stA _ _ _ q1, z1 a q1, eb_stA _ _ _ q1, eb_sts, if_neg (by omega), kF a i (by omega) (by omega), b2 a i (by omega)]
    have y272 : ∀ i, i = 0 ∨ i = 9 → ea_st (ea_st z 273 4 1) 272 7 0 272 i = 0 := fun i hi => by
      rw [eb_stI _ _ _ (by omega), eb_stA _ _ _ (by decide), z1 272 (by decide), eb_stA _ _ _ (by decide), eb_stI _ _ _ (by omega), kF 272 i (by omega) (by omega)]
      rcases hi with rfl | rfl
      · exact c0
      · exact c9
    have y14 : ea_st (ea_st z 273 4 1) 272 7 0 272 14 = -1 := by rw [eb_stI _ _ _ (by decide), eb_stA _ _ _ (by decide), z1 272 (by decide), eb_stA _ _ _ (by decide), eb_st]
    have y7 : ea_st (ea_st z 273 4 1) 272 7 0 272 7 = 0 := eb_st _ _ _ _
    have y4 : ea_st (ea_st z 273 4 1) 272 7 0 273 4 = 1 := by rw [eb_stA _ _ _ (by decide), eb_st]
    have ylo : ∀ j, j < 482 → j ≠ 4 → ea_st (ea_st z 273 4 1) 272 7 0 273 j = m 273 j := fun j h1 h2 => by
      rw [eb_stA _ _ _ (by decide), eb_stI _ _ _ h2, z2 j, if_neg (by omega), eb_stI _ _ _ (by omega), eb_stA _ _ _ (by decide), kF 273 j (by omega) (by omega), b2 273 j (by omega), n1 273 j (by omega) (by omega) (by omega) (by omega) (by omega)]
    have yhi : ∀ x, x < 849 → ea_st (ea_st z 273 4 1) 272 7 0 273 (482 + x) = if x = 0 then nI q.1 else m1 273 (1331 + x) := fun x hx => by
      rw [eb_stA _ _ _ (by decide), eb_stI _ _ _ (by omega), z2 _, if_pos (by omega), show 849 + (482 + x) = 1331 + x by omega, eb_sts]
      by_cases q0 : x = 0
      · rw [if_pos (by omega), if_pos q0]
      · rw [if_neg (by omega), if_neg q0, eb_stA _ _ _ (by decide)]
    obtain ⟨mB, eB⟩ : ∃ mB, mB = ea_st (ea_st z 273 4 1) 272 7 0 := ⟨_, rfl⟩
    rw [← eB] at y1 y272 y14 y7 y4 ylo yhi ⊢
    clear eB z1 z2
    dsimp only
    have k : ∀ a i, a ≠ 273 → ¬ (a = 272 ∧ (i = 0 ∨ i = 7 ∨ i = 9 ∨ i = 10 ∨ i = 11 ∨ i = 12 ∨ i = 13 ∨ i = 14 ∨ i = 16)) → ¬ (16 ≤ a ∧ a < 22) → a ≠ 49 → ¬ (38 ≤ a ∧ a ≤ 43) → a ≠ 287 → ¬ (a = 0 ∧ (i = 1 ∨ i = 2 ∨ i = 13 ∨ i = 18)) → mB a i = m a i := fun a i q1 q2 q3 q4 q5 q6 q7 => by rw [y1 a i q1 q2, n1 a i q3 q4 q5 q6 q7]
    have l7 : ∀ a i, 16 ≤ a → a < 22 → mB a i = m7 a i := fun a i q1 q2 => by rw [y1 a i (by omega) (by omega), n7 a i (by omega) (by omega)]
    have yst : ∀ i, i < q.2.1 → mB 273 (531 + 2 * i) = q.2.2.1 i ∧ mB 273 (532 + 2 * i) = q.2.2.2.1 i := fun i hi => by
      have h1 := yhi (49 + 2 * i) (by omega)
      have h2 := yhi (50 + 2 * i) (by omega)
      rw [if_neg (by omega)] at h1 h2
      rw [show 531 + 2 * i = 482 + (49 + 2 * i) by omega, h1, show 532 + 2 * i = 482 + (50 + 2 * i) by omega, h2, show 1331 + (49 + 2 * i) = 1380 + 2 * i by omega, show 1331 + (50 + 2 * i) = 1381 + 2 * i by omega]
      exact ks i hi
    have yln : ∀ j, j < 4 * q.1 → mB 273 (483 + j) = q.2.2.2.2 j := fun j hj => by
      have h1 := yhi (1 + j) (by omega)
      rw [if_neg (by omega)] at h1
      rw [show 483 + j = 482 + (1 + j) by omega, h1, show 1331 + (1 + j) = 1332 + j by omega]
      exact kd j hj
    refine ⟨y272 0 (Or.inl rfl), fun _ => ?_, ⟨⟨?_, Or.inr ⟨y4, q.1, q.2.1, q12, q400, ?_, ?_, ?_, fun i hi => ?_, fun j hj => ?_⟩, ?_, eb_im_cg (fun a i q => k a i (by omega) (by omega) (by omega) (by omega) (by omega) (by omega) (by omega)) h.1.2.2.2.1, ⟨0, by decide, ?_, y272 9 (Or.inr rfl), fun j hj => ?_⟩, ?_⟩, Or.inl ?_⟩⟩
    · rw [y1 287 0 (by decide) (by decide)]; exact n287
    · refine eb_C_cg (c := eb_ct m 2) (w := upd (m 273) 4 1) (fun i j hj => ?_) (fun j hj => ?_) (et_C_law h.1.1)
      · have := eb_lenI hj
        exact k (2 + i) j (by omega) (by omega) (by omega) (by omega) (by omega) (by omega) (by omega)
      · by_cases q4 : j = 4
        · rw [q4, et_us]; exact y4
        · rw [et_u q4]; exact ylo j hj q4
    · show mB 16 0 = _
      rw [l7 16 0 (by decide) (by decide), u1, a5 38 0 (by decide)]; exact g0
    · have := yhi 0 (by decide)
      rw [if_pos rfl] at this
      exact this
    · show mB 16 1 = _
      rw [l7 16 1 (by decide) (by decide), u2, a5 38 1 (by decide)]; exact g1
    · show eb_sg (mB 21 i) _ _
      rw [l7 21 i (by decide) (by decide), u4 i hi, a5 _ _ (by decide), (yst i hi).1, (yst i hi).2]
      exact g2 i hi
    · show mB 17 j = _ ∧ _ ∧ mB 18 j = _ ∧ ∃ b s, b ≤ s ∧ s ≤ q.2.1 ∧ mB 19 j = nI b ∧ _ ∧ mB 20 j = nI s ∧ _
      rw [l7 17 j (by decide) (by decide), l7 18 j (by decide) (by decide), l7 19 j (by decide) (by decide), l7 20 j (by decide) (by decide), show m7 17 j = m5 39 j from u3 1 j (by decide) (by decide) (by omega), show m7 18 j = m5 40 j from u3 2 j (by decide) (by decide) (by omega), show m7 19 j = m5 41 j from u3 3 j (by decide) (by decide) (by omega), show m7 20 j = m5 42 j from u3 4 j (by decide) (by decide) (by omega), a5 39 j (by decide), a5 40 j (by decide), a5 41 j (by decide), a5 42 j (by decide), yln (4 * j) (by omega), show 484 + 4 * j = 483 + (4 * j + 1) by omega, yln (4 * j + 1) (by omega), show 485 + 4 * j = 483 + (4 * j + 2) by omega, yln (4 * j + 2) (by omega), show 486 + 4 * j = 483 + (4 * j + 3) by omega, yln (4 * j + 3) (by omega)]
      obtain ⟨d1, d2, d3, d4⟩ := g3 j hj
      obtain ⟨v1, b, t, v2, v3, v4, v5, v6⟩ := qV j hj
      refine ⟨d1, v1, d2, b, t, v2, v3, d3.trans v4, v4, d4.trans v5, v5, ?_⟩
      rcases v6 with v6 | v6
      · exact Or.inl v6
      · exact Or.inr (by rw [et_ty_w, et_ty_cg (s := q.2.2.1) _ _ _ fun i h1 h2 => (yst i (by omega)).1]; exact v6)
    · obtain ⟨q', x, hq, hx, e13, e7', e14, hp⟩ := h.1.2.2.1
      refine ⟨0, x, by omega, hx, ?_, y7, ?_, fun j hj => by omega⟩
      · rw [y1 0 13 (by decide) (by decide)]; exact n13
      · rw [k 0 14 (by omega) (by omega) (by omega) (by omega) (by omega) (by omega) (by omega)]; exact e14
    · rw [y1 0 1 (by decide) (by decide)]; exact n01
    · rw [k 1 j (by omega) (by omega) (by omega) (by omega) (by omega) (by omega) (by omega), k 278 j (by omega) (by omega) (by omega) (by omega) (by omega) (by omega) (by omega)]
      exact t3 j hj
    · rw [y1 0 2 (by decide) (by decide), n02, y14]
    · rw [y1 0 18 (by decide) (by decide)]; exact n18
end LAWP
