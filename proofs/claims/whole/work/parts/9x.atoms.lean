section ATOMS
variable {c : Nat → Nat} {L p n b d i : Nat} {m m0 : ea_M} {s v : Nat → Int32} {T T' : List Bool} {τ : Type} {Q : τ → Prop} {F : Int32 → ea_M → Option τ}
theorem et_mPassB {j j' : Nat} (hL : L ≤ 400) (hj : j < ea_str.length) (hj0 : 0 < ea_tl j) (hjj : (ea_str.getD j ("", 0, "")).2.2 = (ea_str.getD j' ("", 0, "")).2.2) (h : et_M c L m p)
    (h0 : et_w c L p j' = false → ∀ m1, et_F m m1 → et_M c L m1 p → m1 272 12 = nI (et_sb c L p) → eb_W (F 0 m1) Q)
    (h1 : et_w c L p j' = true → ∀ m1, et_F m m1 → et_M c L m1 (et_te c L p) → m1 272 12 = nI (et_sb c L p) → eb_W (F 1 m1) Q) : eb_W (ea_cl (f_X12_passes j m) F) Q := by
  have key : eb_W (f_X12_passes j m) (fun z => eb_W (F z.1 z.2) Q) := by
    unfold f_X12_passes
    refine et_mLet hL h fun r m1 k1 k2 => ?_
    rw [et_isWordE hL hj hj0 hjj k2, eb_clR]
    cases hw : et_w c L p j' with
    | false =>
      rw [show eb_b2 false = 0 from rfl, if_pos rfl]
      refine eb_bdV k2.2.1 (eb_bd (eb_some (h0 hw _ (et_F_st k1 (Or.inl rfl) _) (et_M_sb hL k2.1 (eb_st m1 272 10 (nI (et_sb c L p))) ?_ (et_F_T2 (et_F_st (et_F_refl m1) (Or.inl rfl) _) k2.2.2.2.2)) ?_)))
      · dsimp only
        rw [eb_stI _ _ _ (by decide)]; exact k2.2.2.2.1
      · dsimp only
        rw [eb_stI _ _ _ (by decide)]; exact k2.2.1
    | true =>
      rw [show eb_b2 true = 1 from rfl, if_neg (by decide)]
      exact eb_some (h1 hw m1 k1 (et_ML_w hL k2 hw) k2.2.1)
  exact eb_bind key fun z hz => hz
theorem et_LM_d (d' : Nat) (h : et_LM c L m0 m p n s v d) : et_LM c L m0 (ea_st m 272 13 (nI d')) p n s v d' := by
  obtain ⟨hM, h16, h13, h2, h3⟩ := h
  refine ⟨et_M_cg hM (eb_stI _ _ _ (by decide)) (eb_stI _ _ _ (by decide)) (eb_stA _ _ _ (by decide)), ?_, eb_st _ _ _ _, fun i hi => ?_, fun b i q1 q2 => ?_⟩
  · rw [eb_stI _ _ _ (by decide)]; exact h16
  · rw [eb_stA _ _ _ (by decide)]; exact h2 i hi
  · rw [eb_sts, if_neg (by omega)]; exact h3 b i q1 q2
theorem et_gzL {x : Option (Int32 × ea_M)} {o : et_Lo} (h : eb_W x (et_CL c L m0 o)) : eb_W (ea_cl x fun r z => ea_gz r (some (r, z))) (et_CL c L m0 o) := by
  refine eb_bind h fun z hz => ?_
  have h01 : z.1 = 0 ∨ z.1 = 1 := by
    cases o with
    | inl f => exact Or.inl hz.1
    | inr q => exact Or.inr hz.1
  obtain ⟨r, mm⟩ := z
  dsimp only at h01
  rcases h01 with rfl | rfl
  · exact eb_some hz
  · exact eb_some hz
theorem et_LXr (h : et_LS c L m0 m p n s v) (hn : n ≤ 400) : et_LX m0 (ea_st m 49 6 (nI (et_sb c L p))) (et_sb c L p) := et_LX_fa h hn (et_fa_st (et_fa_refl _ _) _ _) (eb_st _ _ _ _)
theorem et_40 : 40 < 128 ∧ ¬ (97 ≤ 40 ∧ 40 ≤ 122) ∧ ¬ (48 ≤ 40 ∧ 40 ≤ 57) := by decide
theorem et_41 : 41 < 128 ∧ ¬ (97 ≤ 41 ∧ 41 ≤ 122) ∧ ¬ (48 ≤ 41 ∧ 41 ≤ 57) := by decide
theorem et_60 : 60 < 128 ∧ ¬ (97 ≤ 60 ∧ 60 ≤ 122) ∧ ¬ (48 ≤ 60 ∧ 60 ≤ 57) := by decide
theorem et_62 : 62 < 128 ∧ ¬ (97 ≤ 62 ∧ 62 ≤ 122) ∧ ¬ (48 ≤ 62 ∧ 62 ≤ 57) := by decide
theorem et_t12 (T : List Bool) : eb_t1 12 (true :: T) = some (true :: T) := by
  unfold eb_t1
  rw [if_neg (by decide), if_neg (by decide), if_pos rfl]
theorem et_t10 (T : List Bool) : eb_t1 10 (false :: false :: T) = some (true :: T) := by
  unfold eb_t1
  rw [if_neg (by decide), if_neg (by decide), if_neg (by decide), if_neg (by decide), if_pos (Or.inl rfl)]
theorem et_t11 (T : List Bool) : eb_t1 11 (false :: false :: T) = some (true :: T) := by
  unfold eb_t1
  rw [if_neg (by decide), if_neg (by decide), if_neg (by decide), if_neg (by decide), if_pos (Or.inr rfl)]
theorem et_t6 (hT : T.length < 31) : eb_t1 6 T = some (true :: T) := by
  unfold eb_t1
  rw [if_pos (Or.inl rfl), if_pos hT]
theorem et_t7 (hT : T.length < 31) : eb_t1 7 T = some (true :: T) := by
  unfold eb_t1
  rw [if_pos (Or.inr rfl), if_pos hT]
/-- a step put with nothing read -/
theorem et_oo_op {x y : Int32} {q : Nat × Nat × (Nat → Int32) × (Nat → Int32)} {p' : Nat} {T1 : List Bool} (H : et_H L b p' n s T) (hp : p < p') (ho : et_oo L b p' n s v T1 (.inr q)) (hx : eb_t1 x T1 = some T') : et_oo L b p n s v T' (.inr (q.1, q.2.1 + 1, upd q.2.2.1 q.2.1 x, upd q.2.2.2 q.2.1 y)) := by
  obtain ⟨a1, a2, a3, a4, a5, a6⟩ := ho
  exact ⟨by dsimp only; omega, a2, by dsimp only; omega, by dsimp only; omega, fun i hi => ⟨(et_u (by omega)).trans (a5 i hi).1, (et_u (by omega)).trans (a5 i hi).2⟩, et_ty_put (by have := H.1; omega) a6 hx⟩
theorem et_oo_ahead {p' : Nat} {o : et_Lo} (hp : p ≤ p') (ho : et_oo L b p' n s v T' o) : et_oo L b p n s v T' o := by
  cases o with
  | inl f => exact ho
  | inr q =>
    obtain ⟨a1, a2, a3, a4, a5, a6⟩ := ho
    exact ⟨by omega, a2, a3, by omega, a5, a6⟩
theorem et_mTag (hL : L ≤ 400) (hn : n + 4 ≤ p) (h : et_LM c L m0 m p n s v d)
    (h24 : et_w c L p 24 = true → ∀ m1, et_LM c L m0 m1 (et_te c L p) (n + 1) (upd s n 6) (upd v n 0) d → eb_W (F 1 m1) Q)
    (h25 : et_w c L p 24 = false → et_w c L p 25 = true → ∀ m1, et_LM c L m0 m1 (et_te c L p) (n + 1) (upd s n 7) (upd v n 0) d → eb_W (F 1 m1) Q)
    (h0 : et_w c L p 24 = false → et_w c L p 25 = false → ∀ m1, et_LM c L m0 m1 p n s v d → eb_W (F 0 m1) Q) : eb_W (ea_cl (f_X12_readTag m) F) Q := by
  have hp := h.1.1
  have key : eb_W (f_X12_readTag m) (fun z => eb_W (F z.1 z.2) Q) := by
    unfold f_X12_readTag
    refine et_mLet hL h.1 fun r m1 k1 k2 => ?_
    rw [et_isWordE (j := 66) (j' := 24) hL (by decide) (by decide +kernel) rfl k2, eb_clR]
    cases hw24 : et_w c L p 24 with
    | true =>
      obtain ⟨m2, e1, e2, _⟩ := et_emits (x := 6) (y := 0) (by omega) (et_LM_F h k1 (et_ML_w hL k2 hw24))
      rw [show eb_b2 true = 1 from rfl, if_neg (by decide)]
      unfold f_X12_readTag_j33 f_X12_readTag_j55
      rw [if_neg (by decide), e1, eb_clR, if_neg (by decide)]
      exact eb_some (h24 hw24 m2 e2)
    | false =>
      rw [show eb_b2 false = 0 from rfl, if_pos rfl, et_isWordE (j := 67) (j' := 25) hL (by decide) (by decide +kernel) rfl k2, eb_clR]
      cases hw25 : et_w c L p 25 with
      | true =>
        obtain ⟨m2, e1, e2, _⟩ := et_emits (x := 7) (y := 0) (by omega) (et_LM_F h k1 (et_ML_w hL k2 hw25))
        rw [show eb_b2 true = 1 from rfl, if_neg (by decide)]
        unfold f_X12_readTag_j33 f_X12_readTag_j55
        rw [if_neg (by decide), e1, eb_clR, if_neg (by decide)]
        exact eb_some (h25 hw24 hw25 m2 e2)
      | false =>
        rw [show eb_b2 false = 0 from rfl, if_pos rfl]
        unfold f_X12_readTag_j33 f_X12_readTag_j55
        rw [if_pos (by decide)]
        refine eb_bdV k2.2.1 (eb_bd ?_)
        rw [if_pos (by decide)]
        refine eb_some (h0 hw24 hw25 _ (et_LM_F h (et_F_st k1 (Or.inl rfl) _) (et_M_sb hL hp (eb_st m1 272 10 (nI (et_sb c L p))) ?_ (et_F_T2 (et_F_st (et_F_refl m1) (Or.inl rfl) _) k2.2.2.2.2))))
        dsimp only
        rw [eb_stI _ _ _ (by decide)]; exact k2.2.2.2.1
  exact eb_bind key fun z hz => hz
theorem et_atom (hL : L ≤ 400) (N : Nat) : ∀ (d b p n : Nat) (s v : Nat → Int32) (T : List Bool), d ≤ 6 → 7 ≤ N + d → et_H L b p n s T → T.length ≤ 2 * d + 2 → et_J c L (f_X8_takesAtom N (nI d)) (f_X12_readAtom N) d b p n s v (true :: T) := by
  induction N with
  | zero => intro d b p n s v T h1 h2; omega
  | succ N ih =>
    intro d b p n s v T hd hN H hT
    show et_J c L (g_X8_takesAtom (f_X8_takesAtom N) (nI d)) (g_X12_readAtom (f_X12_readAtom N)) d b p n s v (true :: T)
    generalize hA : f_X8_takesAtom N = A at ih ⊢
    generalize hA' : f_X12_readAtom N = A' at ih ⊢
    clear hA hA'
    have hp := H.2.2.1
    have hn4 := H.2.1
    have hsb := (et_sb_spec (c := c) hL hp).2.1
    have hp1 := (et_te_le (c := c) hL hp).2.1
    cases hnot : et_w c L p 23 with
    | true =>
      have hlt := et_w_lt hL hp hnot
      have hop : et_sg c L p 40 = false := by
        cases hs : et_sg c L p 40 with
        | false => rfl
        | true => have h3 := et_sg_kd et_40.2 hs; have h1 := (of_decide_eq_true hnot).1; omega
      by_cases hd6 : d < 6
      · have H1 : et_H L b (et_te c L p) n s T := ⟨H.1, by omega, hp1, H.2.2.2⟩
        obtain ⟨o1, oo1, oc1, om1⟩ := ih (d + 1) b (et_te c L p) n s v T (by omega) (by omega) H1 (by omega)
        have cls : ∀ (o : et_Lo) (m0 m : ea_M), et_LS c L m0 m p n s v → (∀ m1, et_LS c L m0 m1 (et_te c L p) n s v → eb_W (f_X8_takesNot A (nI (d + 1)) m1) (et_CL c L m0 o)) → eb_W (g_X8_takesAtom A (nI d) m) (et_CL c L m0 o) := fun o m0 m hS hK => by
          unfold g_X8_takesAtom
          rw [et_sees hL (by decide) hS.1, eb_clR, hnot, show eb_b2 true = 1 from rfl, if_neg (by decide)]
          unfold f_X8_takesAtom_j26
          rw [if_pos (show nI d < 6 from (show nI d < nI 6 from nI_lt hd6 (by decide)))]
          refine et_cStep hL (by decide) hS.1 fun r m1 k1 k2 _ => ?_
          rw [if_neg (by decide), nI_1]
          exact et_gzL (hK m1 (et_LS_fa hS k1 k2))
        have mdl : ∀ (o : et_Lo) (m0 m : ea_M), et_LM c L m0 m p n s v d → (∀ m1, et_LM c L m0 m1 (et_te c L p) n s v (d + 1) → eb_W (ea_cl (A' m1) fun r25 m24 => if r25 = 0 then some (0, m24) else ea_bd (m24 272 13) fun x26 => ea_bd (ea_st m24 272 13 (x26 - 1)) fun m27 => ea_cl (f_X12_emits 12 0 m27) fun r29 m28 => some (1, m28)) (et_ME c L m0 d o)) → eb_W (g_X12_readAtom A' m) (et_ME c L m0 d o) := fun o m0 m hM hK => by
          unfold g_X12_readAtom
          refine et_mSign (x := 40) hL et_40 hM.1 (fun _ m1 k1 k2 _ => ?_) (fun h => by rw [hop] at h; cases h)
          rw [if_pos rfl]
          have M1 := et_LM_F hM k1 k2
          refine et_mPassB (j := 65) (j' := 23) hL (by decide) (by decide +kernel) rfl k2 (fun h => by rw [hnot] at h; cases h) (fun _ m3 g1 g2 _ => ?_)
          have M3 := et_LM_F M1 g1 g2
          rw [if_neg (by decide), eb_bdR, M3.2.2.1, if_neg (show ¬ nI d = 6 from (show ¬ nI d = nI 6 by rw [nI_eq (by omega) (by decide)]; omega)), eb_bdR, eb_bdR, nI_1]
          exact hK _ (et_LM_d (d + 1) M3)
        cases o1 with
        | inl g =>
          refine ⟨.inl g, oo1, fun m0 m hS => cls _ m0 m hS fun m1 hS1 => ?_, fun m0 m hM => mdl _ m0 m hM fun m1 hM1 => ?_⟩
          · unfold f_X8_takesNot
            refine eb_cl (oc1 m0 m1 hS1) fun r m2 h2 => ?_
            obtain ⟨e2, h2⟩ := h2
            dsimp only at e2 h2
            rw [e2, if_pos rfl]
            exact eb_some ⟨rfl, h2⟩
          · refine eb_cl (om1 m0 m1 hM1) fun r m2 h2 => ?_
            obtain ⟨e2, h2, h12⟩ := h2
            dsimp only at e2 h2 h12
            rw [e2, if_pos rfl]
            exact eb_some ⟨rfl, h2, h12⟩
        | inr q =>
          have H2 := et_oo_go H1 oo1
          have hq := H2.2.1
          have hq2 := H2.2.2.1
          refine ⟨.inr (q.1, q.2.1 + 1, upd q.2.2.1 q.2.1 12, upd q.2.2.2 q.2.1 0), et_oo_op H1 hlt oo1 (et_t12 T), fun m0 m hS => cls _ m0 m hS fun m1 hS1 => ?_, fun m0 m hM => mdl _ m0 m hM fun m1 hM1 => ?_⟩
          · unfold f_X8_takesNot
            refine eb_cl (oc1 m0 m1 hS1) fun r m2 h2 => ?_
            obtain ⟨e2, h2⟩ := h2
            dsimp only at e2 h2
            rw [e2, if_neg (by decide)]
            obtain ⟨m3, e3, h3, _⟩ := et_put (g := -12) (x := 12) (y := 0) (by omega) (et_sgO (o := 12) (by decide)) h2
            rw [e3, eb_clR]
            exact eb_some ⟨rfl, h3⟩
          · refine eb_cl (om1 m0 m1 hM1) fun r m2 h2 => ?_
            obtain ⟨e2, h2⟩ := h2
            dsimp only at e2 h2
            rw [e2, if_neg (by decide), eb_bdR, h2.2.2.1, eb_bdR, nI_pred]
            obtain ⟨m3, e3, h3, _⟩ := et_emits (x := 12) (y := 0) (by omega) (et_LM_d d h2)
            rw [e3, eb_clR]
            exact eb_some ⟨rfl, h3⟩
      · refine ⟨.inl (et_sb c L p), hsb, fun m0 m hS => ?_, fun m0 m hM => ?_⟩
        · unfold g_X8_takesAtom
          rw [et_sees hL (by decide) hS.1, eb_clR, hnot, show eb_b2 true = 1 from rfl, if_neg (by decide)]
          unfold f_X8_takesAtom_j26
          rw [if_neg (show ¬ nI d < 6 from (show ¬ nI d < nI 6 from nI_nlt (by omega) (by omega))), et_refuse hS.1, eb_clR, eb_gz0]
          exact eb_some ⟨rfl, et_LXr hS (by omega)⟩
        · unfold g_X12_readAtom
          refine et_mSign (x := 40) hL et_40 hM.1 (fun _ m1 k1 k2 _ => ?_) (fun h => by rw [hop] at h; cases h)
          rw [if_pos rfl]
          have M1 := et_LM_F hM k1 k2
          refine et_mPassB (j := 65) (j' := 23) hL (by decide) (by decide +kernel) rfl k2 (fun h => by rw [hnot] at h; cases h) (fun _ m3 g1 g2 g3 => ?_)
          have M3 := et_LM_F M1 g1 g2
          rw [if_neg (by decide), eb_bdR, M3.2.2.1, if_pos (show nI d = 6 by rw [show d = 6 by omega]; rfl)]
          exact eb_some ⟨rfl, M3.2.2.2.2, g3⟩
    | false =>
    cases hop : et_sg c L p 40 with
    | true =>
      have hlt := et_sg_lt hL et_40.2 hp hop
      by_cases hd6 : d < 6
      · have H1 : et_H L b (et_te c L p) n s T := ⟨H.1, by omega, hp1, H.2.2.2⟩
        obtain ⟨o1, oo1, oc1, om1⟩ := et_condJ (A := A) (A' := A') (K := 2 * (d + 1) + 2) (v := v) hL (fun p n s v T hH hT => ih (d + 1) b p n s v T (by omega) (by omega) hH hT) (by omega) H1
        have cls : ∀ (o : et_Lo) (m0 m : ea_M), et_LS c L m0 m p n s v → (∀ m1, et_LS c L m0 m1 (et_te c L p) n s v → eb_W (ea_cl (f_X8_takesEither A (nI (d + 1)) m1) fun r38 m37 => if r38 = 0 then some (0, m37) else ea_cl (f_X9_takesSign 49 41 m37) fun r40 m39 => if r40 = 0 then some (0, m39) else some (1, m39)) (et_CL c L m0 o)) → eb_W (g_X8_takesAtom A (nI d) m) (et_CL c L m0 o) := fun o m0 m hS hK => by
          unfold g_X8_takesAtom
          rw [et_sees hL (by decide) hS.1, eb_clR, hnot, show eb_b2 false = 0 from rfl, if_pos rfl, show f_X9_seesSign 49 40 m = some (eb_b2 (et_sg c L p 40), m) from et_seesSign hL et_40 hS.1, eb_clR, hop, show eb_b2 true = 1 from rfl, if_neg (by decide)]
          unfold f_X8_takesAtom_j26
          rw [if_pos (show nI d < 6 from (show nI d < nI 6 from nI_lt hd6 (by decide)))]
          refine et_cStep hL (by decide) hS.1 fun r m1 k1 k2 _ => ?_
          rw [if_pos rfl, nI_1]
          exact hK m1 (et_LS_fa hS k1 k2)
        have mdl : ∀ (o : et_Lo) (m0 m : ea_M), et_LM c L m0 m p n s v d → (∀ m1, et_LM c L m0 m1 (et_te c L p) n s v (d + 1) → eb_W (ea_cl (f_X12_readCond A' m1) fun r34 m33 => if r34 = 0 then some (0, m33) else ea_bd (m33 272 13) fun x35 => ea_bd (ea_st m33 272 13 (x35 - 1)) fun m36 => ea_cl (f_X12_sign 41 m36) fun r38 m37 => ea_gz r38 (some (r38, m37))) (et_ME c L m0 d o)) → eb_W (g_X12_readAtom A' m) (et_ME c L m0 d o) := fun o m0 m hM hK => by
          unfold g_X12_readAtom
          refine et_mSign (x := 40) hL et_40 hM.1 (fun h => by rw [hop] at h; cases h) (fun _ m1 k1 k2 _ => ?_)
          have M3 := et_LM_F hM k1 k2
          rw [if_neg (by decide), eb_bdR, M3.2.2.1, if_neg (show ¬ nI d = 6 from (show ¬ nI d = nI 6 by rw [nI_eq (by omega) (by decide)]; omega)), eb_bdR, eb_bdR, nI_1]
          exact hK _ (et_LM_d (d + 1) M3)
        cases o1 with
        | inl g =>
          refine ⟨.inl g, oo1, fun m0 m hS => cls _ m0 m hS fun m1 hS1 => ?_, fun m0 m hM => mdl _ m0 m hM fun m1 hM1 => ?_⟩
          · refine eb_cl (oc1 m0 m1 hS1) fun r m2 h2 => ?_
            obtain ⟨e2, h2⟩ := h2
            dsimp only at e2 h2
            rw [e2, if_pos rfl]
            exact eb_some ⟨rfl, h2⟩
          · refine eb_cl (om1 m0 m1 hM1) fun r m2 h2 => ?_
            obtain ⟨e2, h2, h12⟩ := h2
            dsimp only at e2 h2 h12
            rw [e2, if_pos rfl]
            exact eb_some ⟨rfl, h2, h12⟩
        | inr q =>
          have H2 := et_oo_go H1 oo1
          have hqL := H2.2.2.1
          have hq4 := H2.2.1
          cases hcl : et_sg c L q.1 41 with
          | false =>
            refine ⟨.inl (et_sb c L q.1), (et_sb_spec hL hqL).2.1, fun m0 m hS => cls _ m0 m hS fun m1 hS1 => ?_, fun m0 m hM => mdl _ m0 m hM fun m1 hM1 => ?_⟩
            · refine eb_cl (oc1 m0 m1 hS1) fun r m2 h2 => ?_
              obtain ⟨e2, h2⟩ := h2
              dsimp only at e2 h2
              rw [e2, if_neg (by decide)]
              refine et_cSign (x := 41) hL (by decide) et_41 h2.1 (fun _ m3 g1 g2 => ?_) (fun h => by rw [hcl] at h; cases h)
              rw [if_pos rfl]
              exact eb_some ⟨rfl, et_LX_fa h2 (by omega) g1 g2⟩
            · refine eb_cl (om1 m0 m1 hM1) fun r m2 h2 => ?_
              obtain ⟨e2, h2⟩ := h2
              dsimp only at e2 h2
              rw [e2, if_neg (by decide), eb_bdR, h2.2.2.1, eb_bdR, nI_pred]
              have h3 := et_LM_d d h2
              refine et_mSign (x := 41) hL et_41 h3.1 (fun _ m3 g1 g2 g3 => ?_) (fun h => by rw [hcl] at h; cases h)
              exact eb_some ⟨rfl, et_DF_F h3.2.2.2.2 g1, g3⟩
          | true =>
            have hq1 := et_sg_lt hL et_41.2 hqL hcl
            have hq2 := (et_te_le (c := c) hL hqL).2.1
            refine ⟨.inr (et_te c L q.1, q.2), ?_, fun m0 m hS => cls _ m0 m hS fun m1 hS1 => ?_, fun m0 m hM => mdl _ m0 m hM fun m1 hM1 => ?_⟩
            · obtain ⟨a1, a2, a3, a4, a5, a6⟩ := oo1
              exact ⟨by dsimp only; omega, hq2, a3, by dsimp only; omega, a5, a6⟩
            · refine eb_cl (oc1 m0 m1 hS1) fun r m2 h2 => ?_
              obtain ⟨e2, h2⟩ := h2
              dsimp only at e2 h2
              rw [e2, if_neg (by decide)]
              refine et_cSign (x := 41) hL (by decide) et_41 h2.1 (fun h => by rw [hcl] at h; cases h) (fun _ m3 g1 g2 => ?_)
              rw [if_neg (by decide)]
              exact eb_some ⟨rfl, et_LS_fa h2 g1 g2⟩
            · refine eb_cl (om1 m0 m1 hM1) fun r m2 h2 => ?_
              obtain ⟨e2, h2⟩ := h2
              dsimp only at e2 h2
              rw [e2, if_neg (by decide), eb_bdR, h2.2.2.1, eb_bdR, nI_pred]
              have h3 := et_LM_d d h2
              refine et_mSign (x := 41) hL et_41 h3.1 (fun h => by rw [hcl] at h; cases h) (fun _ m3 g1 g2 g3 => ?_)
              exact eb_some ⟨rfl, et_LM_F h3 g1 g2⟩
      · refine ⟨.inl (et_sb c L p), hsb, fun m0 m hS => ?_, fun m0 m hM => ?_⟩
        · unfold g_X8_takesAtom
          rw [et_sees hL (by decide) hS.1, eb_clR, hnot, show eb_b2 false = 0 from rfl, if_pos rfl, show f_X9_seesSign 49 40 m = some (eb_b2 (et_sg c L p 40), m) from et_seesSign hL et_40 hS.1, eb_clR, hop, show eb_b2 true = 1 from rfl, if_neg (by decide)]
          unfold f_X8_takesAtom_j26
          rw [if_neg (show ¬ nI d < 6 from (show ¬ nI d < nI 6 from nI_nlt (by omega) (by omega))), et_refuse hS.1, eb_clR, eb_gz0]
          exact eb_some ⟨rfl, et_LXr hS (by omega)⟩
        · unfold g_X12_readAtom
          refine et_mSign (x := 40) hL et_40 hM.1 (fun h => by rw [hop] at h; cases h) (fun _ m1 k1 k2 k3 => ?_)
          have M3 := et_LM_F hM k1 k2
          rw [if_neg (by decide), eb_bdR, M3.2.2.1, if_pos (show nI d = 6 by rw [show d = 6 by omega]; rfl)]
          exact eb_some ⟨rfl, M3.2.2.2.2, k3⟩
    | false =>
    have cls0 : ∀ (o : et_Lo) (m0 m : ea_M), et_LS c L m0 m p n s v → eb_W (ea_cl (f_X9_sees 49 24 m) fun r6 m5 => if r6 = 0 then ea_cl (f_X9_sees 49 25 m5) fun r8 m7 => if r8 = 0 then ea_cl (f_X8_takesSum m7) fun r10 m9 => if r10 = 0 then some (0, m9) else ea_cl (f_X9_seesSign 49 60 m9) fun r12 m11 => if r12 = 0 then f_X8_takesAtom_j182 A r12 62 m11 else f_X8_takesAtom_j182 A r12 60 m11 else f_X8_takesAtom_j113 A m7 else f_X8_takesAtom_j113 A m5) (et_CL c L m0 o) → eb_W (g_X8_takesAtom A (nI d) m) (et_CL c L m0 o) := fun o m0 m hS hK => by
      unfold g_X8_takesAtom
      rw [et_sees hL (by decide) hS.1, eb_clR, hnot, show eb_b2 false = 0 from rfl, if_pos rfl, show f_X9_seesSign 49 40 m = some (eb_b2 (et_sg c L p 40), m) from et_seesSign hL et_40 hS.1, eb_clR, hop, show eb_b2 false = 0 from rfl, if_pos rfl]
      exact hK
    have mdl0 : ∀ (o : et_Lo) (m0 m : ea_M), et_LM c L m0 m p n s v d → (∀ m1, et_LM c L m0 m1 p n s v d → eb_W (ea_cl (f_X12_readTag m1) fun r6 m5 => if r6 = 0 then ea_cl (f_X12_readSum m5) fun r8 m7 => if r8 = 0 then some (0, m7) else ea_cl (f_X12_sign 60 m7) fun r10 m9 => if r10 = 0 then ea_cl (f_X12_sign 62 m9) fun r12 m11 => if r12 = 0 then some (0, m11) else f_X12_readAtom_j152 A' r10 m11 else f_X12_readAtom_j152 A' r10 m9 else some (1, m5)) (et_ME c L m0 d o)) → eb_W (g_X12_readAtom A' m) (et_ME c L m0 d o) := fun o m0 m hM hK => by
      unfold g_X12_readAtom
      refine et_mSign (x := 40) hL et_40 hM.1 (fun _ m1 k1 k2 _ => ?_) (fun h => by rw [hop] at h; cases h)
      rw [if_pos rfl]
      have M1 := et_LM_F hM k1 k2
      refine et_mPassB (j := 65) (j' := 23) hL (by decide) (by decide +kernel) rfl k2 (fun _ m3 g1 g2 _ => ?_) (fun h => by rw [hnot] at h; cases h)
      rw [if_pos rfl]
      exact hK m3 (et_LM_F M1 g1 g2)
    cases hw24 : et_w c L p 24 with
    | true =>
      have hlt := et_w_lt hL hp hw24
      refine ⟨.inr (et_te c L p, n + 1, upd s n 6, upd v n 0), et_oo_put H hlt hp1 (et_t6 (by omega)), fun m0 m hS => cls0 _ m0 m hS ?_, fun m0 m hM => mdl0 _ m0 m hM fun m1 hM1 => ?_⟩
      · rw [et_sees hL (by decide) hS.1, eb_clR, hw24, show eb_b2 true = 1 from rfl, if_neg (by decide)]
        unfold f_X8_takesAtom_j113
        rw [et_sees hL (by decide) hS.1, eb_clR, hw24, show eb_b2 true = 1 from rfl, if_neg (by decide)]
        unfold f_X8_takesAtom_j136 f_X7_putFact
        obtain ⟨m3, e3, h3, _⟩ := et_put (g := -1 - 6) (x := 6) (y := 0) (by omega) (et_sgF (f := 6) (by decide)) hS
        rw [e3, eb_clR, eb_clR]
        exact et_cStep hL (by decide) h3.1 fun r m4 k1 k2 _ => eb_some ⟨rfl, et_LS_fa h3 k1 k2⟩
      · refine et_mTag hL hn4 hM1 (fun _ m2 h2 => ?_) (fun h => by rw [hw24] at h; cases h) (fun h => by rw [hw24] at h; cases h)
        rw [if_neg (by decide)]
        exact eb_some ⟨rfl, h2⟩
    | false =>
    cases hw25 : et_w c L p 25 with
    | true =>
      have hlt := et_w_lt hL hp hw25
      refine ⟨.inr (et_te c L p, n + 1, upd s n 7, upd v n 0), et_oo_put H hlt hp1 (et_t7 (by omega)), fun m0 m hS => cls0 _ m0 m hS ?_, fun m0 m hM => mdl0 _ m0 m hM fun m1 hM1 => ?_⟩
      · rw [et_sees hL (by decide) hS.1, eb_clR, hw24, show eb_b2 false = 0 from rfl, if_pos rfl, et_sees hL (by decide) hS.1, eb_clR, hw25, show eb_b2 true = 1 from rfl, if_neg (by decide)]
        unfold f_X8_takesAtom_j113
        rw [et_sees hL (by decide) hS.1, eb_clR, hw24, show eb_b2 false = 0 from rfl, if_pos rfl]
        unfold f_X8_takesAtom_j136 f_X7_putFact
        obtain ⟨m3, e3, h3, _⟩ := et_put (g := -1 - 7) (x := 7) (y := 0) (by omega) (et_sgF (f := 7) (by decide)) hS
        rw [e3, eb_clR, eb_clR]
        exact et_cStep hL (by decide) h3.1 fun r m4 k1 k2 _ => eb_some ⟨rfl, et_LS_fa h3 k1 k2⟩
      · refine et_mTag hL hn4 hM1 (fun h => by rw [hw24] at h; cases h) (fun _ _ m2 h2 => ?_) (fun _ h => by rw [hw25] at h; cases h)
        rw [if_neg (by decide)]
        exact eb_some ⟨rfl, h2⟩
    | false =>
    have cls : ∀ (o : et_Lo) (m0 m : ea_M), et_LS c L m0 m p n s v → eb_W (ea_cl (f_X8_takesSum m) fun r10 m9 => if r10 = 0 then some (0, m9) else ea_cl (f_X9_seesSign 49 60 m9) fun r12 m11 => if r12 = 0 then f_X8_takesAtom_j182 A r12 62 m11 else f_X8_takesAtom_j182 A r12 60 m11) (et_CL c L m0 o) → eb_W (g_X8_takesAtom A (nI d) m) (et_CL c L m0 o) := fun o m0 m hS hK => by
      refine cls0 o m0 m hS ?_
      rw [et_sees hL (by decide) hS.1, eb_clR, hw24, show eb_b2 false = 0 from rfl, if_pos rfl, et_sees hL (by decide) hS.1, eb_clR, hw25, show eb_b2 false = 0 from rfl, if_pos rfl]
      exact hK
    have mdl : ∀ (o : et_Lo) (m0 m : ea_M), et_LM c L m0 m p n s v d → (∀ m1, et_LM c L m0 m1 p n s v d → eb_W (ea_cl (f_X12_readSum m1) fun r8 m7 => if r8 = 0 then some (0, m7) else ea_cl (f_X12_sign 60 m7) fun r10 m9 => if r10 = 0 then ea_cl (f_X12_sign 62 m9) fun r12 m11 => if r12 = 0 then some (0, m11) else f_X12_readAtom_j152 A' r10 m11 else f_X12_readAtom_j152 A' r10 m9) (et_ME c L m0 d o)) → eb_W (g_X12_readAtom A' m) (et_ME c L m0 d o) := fun o m0 m hM hK => by
      refine mdl0 o m0 m hM fun m1 hM1 => ?_
      refine et_mTag hL hn4 hM1 (fun h => by rw [hw24] at h; cases h) (fun _ h => by rw [hw25] at h; cases h) (fun _ _ m2 h2 => ?_)
      rw [if_pos rfl]
      exact hK m2 h2
    obtain ⟨o1, oo1, oc1, om1⟩ := et_sum (c := c) (d := d) (v := v) hL (show T.length < 29 by omega) H
    cases o1 with
    | inl g =>
      refine ⟨.inl g, oo1, fun m0 m hS => cls _ m0 m hS ?_, fun m0 m hM => mdl _ m0 m hM fun m1 hM1 => ?_⟩
      · refine eb_cl (oc1 m0 m hS) fun r m2 h2 => ?_
        obtain ⟨e2, h2⟩ := h2
        dsimp only at e2 h2
        rw [e2, if_pos rfl]
        exact eb_some ⟨rfl, h2⟩
      · refine eb_cl (om1 m0 m1 hM1) fun r m2 h2 => ?_
        obtain ⟨e2, h2, h12⟩ := h2
        dsimp only at e2 h2 h12
        rw [e2, if_pos rfl]
        exact eb_some ⟨rfl, h2, h12⟩
    | inr q =>
    have H2 := et_oo_go H oo1
    have hqL := H2.2.2.1
    have hq4 := H2.2.1
    have hq1 := (et_te_le (c := c) hL hqL).2.1
    -- the sign between the sums
    have fin : ∀ (lt : Bool) (sg : Nat), sg < 128 ∧ ¬ (97 ≤ sg ∧ sg ≤ 122) ∧ ¬ (48 ≤ sg ∧ sg ≤ 57) → et_sg c L q.1 sg = true → ∃ o, et_oo L b q.1 q.2.1 q.2.2.1 q.2.2.2 (true :: T) o ∧ (∀ m0 m, et_LS c L m0 m q.1 q.2.1 q.2.2.1 q.2.2.2 → eb_W (f_X8_takesAtom_j182 A (eb_b2 lt) (nI sg) m) (et_CL c L m0 o)) ∧ (∀ m0 m, et_LM c L m0 m (et_te c L q.1) q.2.1 q.2.2.1 q.2.2.2 d → eb_W (f_X12_readAtom_j152 A' (eb_b2 lt) m) (et_ME c L m0 d o)) := by
      intro lt sg hsg hs
      have hlt := et_sg_lt hL hsg.2 hqL hs
      have H3 : et_H L b (et_te c L q.1) q.2.1 q.2.2.1 (false :: T) := ⟨H2.1, by omega, hq1, H2.2.2.2⟩
      obtain ⟨o2, oo2, oc2, om2⟩ := et_sum (c := c) (d := d) (v := q.2.2.2) hL (show (false :: T).length < 29 by rw [List.length_cons]; omega) H3
      have cls2 : ∀ (o : et_Lo) (m0 m : ea_M), et_LS c L m0 m q.1 q.2.1 q.2.2.1 q.2.2.2 → (∀ m1, et_LS c L m0 m1 (et_te c L q.1) q.2.1 q.2.2.1 q.2.2.2 → eb_W (ea_cl (f_X8_takesSum m1) fun r19 m18 => if r19 = 0 then some (0, m18) else if eb_b2 lt = 0 then f_X8_takesAtom_j212 A (-11) m18 else f_X8_takesAtom_j212 A (-10) m18) (et_CL c L m0 o)) → eb_W (f_X8_takesAtom_j182 A (eb_b2 lt) (nI sg) m) (et_CL c L m0 o) := fun o m0 m hS hK => by
        unfold f_X8_takesAtom_j182
        refine et_cSign hL (by decide) hsg hS.1 (fun h => by rw [hs] at h; cases h) (fun _ m3 g1 g2 => ?_)
        rw [if_neg (by decide)]
        exact hK m3 (et_LS_fa hS g1 g2)
      cases o2 with
      | inl g =>
        refine ⟨.inl g, oo2, fun m0 m hS => cls2 _ m0 m hS fun m1 hS1 => ?_, fun m0 m hM => ?_⟩
        · refine eb_cl (oc2 m0 m1 hS1) fun r m2 h2 => ?_
          obtain ⟨e2, h2⟩ := h2
          dsimp only at e2 h2
          rw [e2, if_pos rfl]
          exact eb_some ⟨rfl, h2⟩
        · unfold f_X12_readAtom_j152
          refine eb_cl (om2 m0 m hM) fun r m2 h2 => ?_
          obtain ⟨e2, h2, h12⟩ := h2
          dsimp only at e2 h2 h12
          rw [e2, if_pos rfl]
          exact eb_some ⟨rfl, h2, h12⟩
      | inr q2 =>
        have H4 := et_oo_go H3 oo2
        have hqq := H4.2.1
        have hqq2 := H4.2.2.1
        cases lt with
        | true =>
          refine ⟨.inr (q2.1, q2.2.1 + 1, upd q2.2.2.1 q2.2.1 10, upd q2.2.2.2 q2.2.1 0), et_oo_op H3 hlt oo2 (et_t10 T), fun m0 m hS => cls2 _ m0 m hS fun m1 hS1 => ?_, fun m0 m hM => ?_⟩
          · refine eb_cl (oc2 m0 m1 hS1) fun r m2 h2 => ?_
            obtain ⟨e2, h2⟩ := h2
            dsimp only at e2 h2
            rw [e2, if_neg (by decide), if_neg (by decide)]
            unfold f_X8_takesAtom_j212
            obtain ⟨m3, e3, h3, _⟩ := et_put (g := -10) (x := 10) (y := 0) (by omega) (et_sgO (o := 10) (by decide)) h2
            rw [e3, eb_clR]
            exact eb_some ⟨rfl, h3⟩
          · unfold f_X12_readAtom_j152
            refine eb_cl (om2 m0 m hM) fun r m2 h2 => ?_
            obtain ⟨e2, h2⟩ := h2
            dsimp only at e2 h2
            rw [e2, if_neg (by decide), if_neg (by decide)]
            unfold f_X12_readAtom_j173
            obtain ⟨m3, e3, h3, _⟩ := et_emits (x := 10) (y := 0) (by omega) h2
            rw [e3, eb_clR]
            exact eb_some ⟨rfl, h3⟩
        | false =>
          refine ⟨.inr (q2.1, q2.2.1 + 1, upd q2.2.2.1 q2.2.1 11, upd q2.2.2.2 q2.2.1 0), et_oo_op H3 hlt oo2 (et_t11 T), fun m0 m hS => cls2 _ m0 m hS fun m1 hS1 => ?_, fun m0 m hM => ?_⟩
          · refine eb_cl (oc2 m0 m1 hS1) fun r m2 h2 => ?_
            obtain ⟨e2, h2⟩ := h2
            dsimp only at e2 h2
            rw [e2, if_neg (by decide), show eb_b2 false = 0 from rfl, if_pos rfl]
            unfold f_X8_takesAtom_j212
            obtain ⟨m3, e3, h3, _⟩ := et_put (g := -11) (x := 11) (y := 0) (by omega) (et_sgO (o := 11) (by decide)) h2
            rw [e3, eb_clR]
            exact eb_some ⟨rfl, h3⟩
          · unfold f_X12_readAtom_j152
            refine eb_cl (om2 m0 m hM) fun r m2 h2 => ?_
            obtain ⟨e2, h2⟩ := h2
            dsimp only at e2 h2
            rw [e2, if_neg (by decide), show eb_b2 false = 0 from rfl, if_pos rfl]
            unfold f_X12_readAtom_j173
            obtain ⟨m3, e3, h3, _⟩ := et_emits (x := 11) (y := 0) (by omega) h2
            rw [e3, eb_clR]
            exact eb_some ⟨rfl, h3⟩
    have cls3 : ∀ (o : et_Lo) (m0 m : ea_M), et_LS c L m0 m p n s v → (∀ m1, et_LS c L m0 m1 q.1 q.2.1 q.2.2.1 q.2.2.2 → eb_W (if eb_b2 (et_sg c L q.1 60) = 0 then f_X8_takesAtom_j182 A (eb_b2 (et_sg c L q.1 60)) 62 m1 else f_X8_takesAtom_j182 A (eb_b2 (et_sg c L q.1 60)) 60 m1) (et_CL c L m0 o)) → eb_W (g_X8_takesAtom A (nI d) m) (et_CL c L m0 o) := fun o m0 m hS hK => by
      refine cls o m0 m hS (eb_cl (oc1 m0 m hS) fun r m2 h2 => ?_)
      obtain ⟨e2, h2⟩ := h2
      dsimp only at e2 h2
      rw [e2, if_neg (by decide), show f_X9_seesSign 49 60 m2 = some (eb_b2 (et_sg c L q.1 60), m2) from et_seesSign hL et_60 h2.1, eb_clR]
      exact hK m2 h2
    have mdl3 : ∀ (o : et_Lo) (m0 m : ea_M), et_LM c L m0 m p n s v d → (∀ m1, et_LM c L m0 m1 q.1 q.2.1 q.2.2.1 q.2.2.2 d → eb_W (ea_cl (f_X12_sign 60 m1) fun r10 m9 => if r10 = 0 then ea_cl (f_X12_sign 62 m9) fun r12 m11 => if r12 = 0 then some (0, m11) else f_X12_readAtom_j152 A' r10 m11 else f_X12_readAtom_j152 A' r10 m9) (et_ME c L m0 d o)) → eb_W (g_X12_readAtom A' m) (et_ME c L m0 d o) := fun o m0 m hM hK => by
      refine mdl o m0 m hM fun m1 hM1 => eb_cl (om1 m0 m1 hM1) fun r m2 h2 => ?_
      obtain ⟨e2, h2⟩ := h2
      dsimp only at e2 h2
      rw [e2, if_neg (by decide)]
      exact hK m2 h2
    cases h60 : et_sg c L q.1 60 with
    | true =>
      obtain ⟨o, oo, oc, om⟩ := fin true 60 et_60 h60
      refine ⟨o, et_oo_tr oo1 oo, fun m0 m hS => cls3 _ m0 m hS fun m1 hS1 => ?_, fun m0 m hM => mdl3 _ m0 m hM fun m1 hM1 => ?_⟩
      · rw [h60, show eb_b2 true = 1 from rfl, if_neg (by decide)]
        exact oc m0 m1 hS1
      · refine et_mSign (x := 60) hL et_60 hM1.1 (fun h => by rw [h60] at h; cases h) (fun _ m2 k1 k2 _ => ?_)
        rw [if_neg (by decide)]
        exact om m0 m2 (et_LM_F hM1 k1 k2)
    | false =>
      cases h62 : et_sg c L q.1 62 with
      | true =>
        obtain ⟨o, oo, oc, om⟩ := fin false 62 et_62 h62
        refine ⟨o, et_oo_tr oo1 oo, fun m0 m hS => cls3 _ m0 m hS fun m1 hS1 => ?_, fun m0 m hM => mdl3 _ m0 m hM fun m1 hM1 => ?_⟩
        · rw [h60, show eb_b2 false = 0 from rfl, if_pos rfl]
          exact oc m0 m1 hS1
        · refine et_mSign (x := 60) hL et_60 hM1.1 (fun _ m2 k1 k2 _ => ?_) (fun h => by rw [h60] at h; cases h)
          rw [if_pos rfl]
          have hM2 := et_LM_F hM1 k1 k2
          refine et_mSign (x := 62) hL et_62 hM2.1 (fun h => by rw [h62] at h; cases h) (fun _ m3 g1 g2 _ => ?_)
          rw [if_neg (by decide)]
          exact om m0 m3 (et_LM_F hM2 g1 g2)
      | false =>
        refine ⟨.inl (et_sb c L q.1), (et_sb_spec hL hqL).2.1, fun m0 m hS => cls3 _ m0 m hS fun m1 hS1 => ?_, fun m0 m hM => mdl3 _ m0 m hM fun m1 hM1 => ?_⟩
        · rw [h60, show eb_b2 false = 0 from rfl, if_pos rfl]
          unfold f_X8_takesAtom_j182
          refine et_cSign (x := 62) hL (by decide) et_62 hS1.1 (fun _ m3 g1 g2 => ?_) (fun h => by rw [h62] at h; cases h)
          rw [if_pos rfl]
          exact eb_some ⟨rfl, et_LX_fa hS1 (by omega) g1 g2⟩
        · refine et_mSign (x := 60) hL et_60 hM1.1 (fun _ m2 k1 k2 _ => ?_) (fun h => by rw [h60] at h; cases h)
          rw [if_pos rfl]
          have hM2 := et_LM_F hM1 k1 k2
          refine et_mSign (x := 62) hL et_62 hM2.1 (fun _ m3 g1 g2 g3 => ?_) (fun h => by rw [h62] at h; cases h)
          rw [if_pos rfl]
          exact eb_some ⟨rfl, et_DF_F hM2.2.2.2.2 g1, g3⟩
end ATOMS
