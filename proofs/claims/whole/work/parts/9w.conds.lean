section CONDS
variable {c : Nat → Nat} {L p n b d i : Nat} {m m0 : ea_M} {s v : Nat → Int32} {T T' : List Bool} {τ σ ρ : Type} {Q : τ → Prop} {F : Int32 → ea_M → Option τ}
theorem et_lp {step : σ → Option (σ ⊕ ρ)} {R : ρ → Prop} {f : Nat} {x : σ} (h : eb_W (step x) (Sum.elim (fun y => eb_W (ea_loop step f y) R) R)) : eb_W (ea_loop step (f + 1) x) R := by
  obtain ⟨z, e, hz⟩ := h
  cases z with
  | inl y => rw [eb_loop_inl e]; exact hz
  | inr r => rw [eb_loop_inr e]; exact ⟨r, rfl, hz⟩
def et_J (c : Nat → Nat) (L : Nat) (X Y : ea_M → Option (Int32 × ea_M)) (d b p n : Nat) (s v : Nat → Int32) (T' : List Bool) : Prop :=
  ∃ o, et_oo L b p n s v T' o ∧ (∀ m0 m, et_LS c L m0 m p n s v → eb_W (X m) (et_CL c L m0 o)) ∧ ∀ m0 m, et_LM c L m0 m p n s v d → eb_W (Y m) (et_ME c L m0 d o)
def et_sR (c : Nat → Nat) (L : Nat) (m0 : ea_M) (o : et_Lo) (r : (Int32 × ea_M) ⊕ ea_M) : Prop := ∃ y, r = .inl y ∧ et_CL c L m0 o y
def et_sM (c : Nat → Nat) (L : Nat) (m0 : ea_M) (d : Nat) (o : et_Lo) (r : (Int32 × ea_M) ⊕ ea_M) : Prop := match o with
  | .inl g => ∃ mm, r = .inl (0, mm) ∧ et_DF m0 mm ∧ mm 272 12 = nI g
  | .inr q => ∃ mm, r = .inr mm ∧ et_LM c L m0 mm q.1 q.2.1 q.2.2.1 q.2.2.2 d
theorem et_43 : 43 < 128 ∧ ¬ (97 ≤ 43 ∧ 43 ≤ 122) ∧ ¬ (48 ≤ 43 ∧ 43 ≤ 57) := by decide
theorem et_sg9 : eb_sg (-9) 9 0 := et_sgO (o := 9) (by decide)
theorem et_t9 (T : List Bool) : eb_t1 9 (false :: false :: T) = some (false :: T) := by
  unfold eb_t1
  rw [if_neg (by decide), if_neg (by decide), if_neg (by decide), if_pos rfl]
theorem et_oo_same (h : et_H L b p n s T) : et_oo L b p n s v T (.inr (p, n, s, v)) := ⟨Nat.le_refl _, h.2.2.1, Nat.le_refl _, Nat.le_refl _, fun _ _ => ⟨rfl, rfl⟩, h.2.2.2⟩
theorem et_sumT (hL : L ≤ 400) (hT : T.length < 29) (k : Nat) : ∀ (p n i : Nat) (s v : Nat → Int32), L - p ≤ k → et_H L b p n s (false :: T) → i + 4 ≤ p → ∃ o, et_oo L b p n s v (false :: T) o ∧
    (∀ m0 m f, et_LS c L m0 m p n s v → L - p < f → eb_W (f_X8_takesSum_j83 (nI i) m) (Sum.elim (fun y => eb_W (ea_loop f_X8_takesSum_s2 f y) (et_sR c L m0 o)) (et_sR c L m0 o))) ∧
    (∀ m0 m f d, et_LM c L m0 m p n s v d → L - p < f → eb_W (ea_loop f_X12_readSum_s9 f m) (et_sM c L m0 d o)) := by
  induction k with
  | zero =>
    intro p n i s v hk H hi
    have hp := H.2.2.1
    have hs : et_sg c L p 43 = false := decide_eq_false fun z => by have := (et_sb_spec (c := c) hL hp).1; omega
    refine ⟨.inr (p, n, s, v), et_oo_same H, fun m0 m f hS hf => ?_, fun m0 m f d hM hf => ?_⟩
    · unfold f_X8_takesSum_j83
      rw [show f_X9_seesSign 49 43 m = some (eb_b2 (et_sg c L p 43), m) from et_seesSign hL et_43 hS.1, eb_clR, hs, show eb_b2 false = 0 from rfl, if_pos rfl]
      exact eb_some ⟨_, rfl, rfl, hS⟩
    · obtain ⟨f, rfl⟩ : ∃ f', f = f' + 1 := ⟨f - 1, by omega⟩
      refine et_lp ?_
      unfold f_X12_readSum_s9
      refine et_mSign (x := 43) hL et_43 hM.1 (fun _ m1 k1 k2 _ => ?_) (fun h => by rw [hs] at h; cases h)
      rw [if_pos rfl]
      exact eb_some ⟨m1, rfl, et_LM_F hM k1 k2⟩
  | succ k ih =>
    intro p n i s v hk H hi
    have hp := H.2.2.1
    cases hs : et_sg c L p 43 with
    | false =>
      refine ⟨.inr (p, n, s, v), et_oo_same H, fun m0 m f hS hf => ?_, fun m0 m f d hM hf => ?_⟩
      · unfold f_X8_takesSum_j83
        rw [show f_X9_seesSign 49 43 m = some (eb_b2 (et_sg c L p 43), m) from et_seesSign hL et_43 hS.1, eb_clR, hs, show eb_b2 false = 0 from rfl, if_pos rfl]
        exact eb_some ⟨_, rfl, rfl, hS⟩
      · obtain ⟨f, rfl⟩ : ∃ f', f = f' + 1 := ⟨f - 1, by omega⟩
        refine et_lp ?_
        unfold f_X12_readSum_s9
        refine et_mSign (x := 43) hL et_43 hM.1 (fun _ m1 k1 k2 _ => ?_) (fun h => by rw [hs] at h; cases h)
        rw [if_pos rfl]
        exact eb_some ⟨m1, rfl, et_LM_F hM k1 k2⟩
    | true =>
      have hlt := et_sg_lt hL et_43.2 hp hs
      have hp1 := (et_te_le (c := c) hL hp).2.1
      obtain ⟨p1, ep1⟩ : ∃ p1, p1 = et_te c L p := ⟨_, rfl⟩
      rw [← ep1] at hlt hp1
      have hn4 := H.2.1
      have cls : ∀ (o : et_Lo) (m0 m : ea_M) (f : Nat), et_LS c L m0 m p n s v → L - p < f + 1 → (∀ m1, et_LS c L m0 m1 p1 n s v → eb_W (et_cp (fun m3 => some (.inr (.inl (0, m3)))) (f_X8_takesSum_j70 (nI (i + 1))) m1) (Sum.elim (fun y => eb_W (ea_loop f_X8_takesSum_s2 f y) (et_sR c L m0 o)) (et_sR c L m0 o))) → eb_W (f_X8_takesSum_j83 (nI i) m) (Sum.elim (fun y => eb_W (ea_loop f_X8_takesSum_s2 (f + 1) y) (et_sR c L m0 o)) (et_sR c L m0 o)) := by
        intro o m0 m f hS hf hK
        unfold f_X8_takesSum_j83
        rw [show f_X9_seesSign 49 43 m = some (eb_b2 (et_sg c L p 43), m) from et_seesSign hL et_43 hS.1, eb_clR, hs, show eb_b2 true = 1 from rfl, if_neg (by decide)]
        refine et_cStep hL (by decide) hS.1 fun r m1 k1 k2 _ => ?_
        rw [nI_1]
        refine eb_some (et_lp ?_)
        unfold f_X8_takesSum_s2
        dsimp only
        rw [if_neg (show ¬ 400 ≤ nI (i + 1) from (show ¬ nI 400 ≤ nI (i + 1) from nI_ge (by omega) (by decide)))]
        exact hK m1 (by rw [ep1]; exact et_LS_fa hS k1 k2)
      have mdl : ∀ (o : et_Lo) (m0 m : ea_M) (f d : Nat), et_LM c L m0 m p n s v d → L - p < f + 1 → (∀ m1, et_LM c L m0 m1 p1 n s v d → eb_W (ea_cl (f_X12_readPart m1) fun r6 m5 => if r6 = 0 then some (.inr (.inl (0, m5))) else ea_cl (f_X12_emits 9 0 m5) fun r8 m7 => some (.inl m7)) (Sum.elim (fun y => eb_W (ea_loop f_X12_readSum_s9 f y) (et_sM c L m0 d o)) (et_sM c L m0 d o))) → eb_W (ea_loop f_X12_readSum_s9 (f + 1) m) (et_sM c L m0 d o) := by
        intro o m0 m f d hM hf hK
        refine et_lp ?_
        unfold f_X12_readSum_s9
        refine et_mSign (x := 43) hL et_43 hM.1 (fun h => by rw [hs] at h; cases h) (fun _ m1 k1 k2 _ => ?_)
        rw [if_neg (by decide)]
        exact hK m1 (by rw [ep1]; exact et_LM_F hM k1 k2)
      cases hpt : et_pt c L p1 with
      | none =>
        refine ⟨.inl (et_sb c L p1), (et_sb_spec hL hp1).2.1, fun m0 m f hS hf => ?_, fun m0 m f d hM hf => ?_⟩
        · obtain ⟨f, rfl⟩ : ∃ f', f = f' + 1 := ⟨f - 1, by omega⟩
          refine cls _ m0 m f hS hf fun m1 hS1 => et_cPart hL (by omega) hS1 (fun _ m3 hX => eb_some ⟨_, rfl, rfl, hX⟩) (fun z hz => by rw [hpt] at hz; cases hz)
        · obtain ⟨f, rfl⟩ : ∃ f', f = f' + 1 := ⟨f - 1, by omega⟩
          refine mdl _ m0 m f d hM hf fun m1 hM1 => et_mPart hL (by omega) hM1 (fun _ m3 hX h12 => ?_) (fun z hz => by rw [hpt] at hz; cases hz)
          rw [if_pos rfl]
          exact eb_some ⟨m3, rfl, hX, h12⟩
      | some z =>
        obtain ⟨z1, z2, z3⟩ := et_pt_lt (T := false :: T) hL hp1 hpt
        have H1 : et_oo L b p n s v (false :: false :: T) (.inr (p1, n + 1, upd s n z.1, upd v n z.2)) := et_oo_put H hlt hp1 (z3 (by rw [List.length_cons]; omega))
        have H2 := et_oo_go H H1
        have H3 : et_oo L b p n s v (false :: T) (.inr (et_te c L p1, n + 2, upd (upd s n z.1) (n + 1) 9, upd (upd v n z.2) (n + 1) 0)) := et_oo_tr H1 (et_oo_put H2 z1 z2 (et_t9 T))
        obtain ⟨o, oo, oc, om⟩ := ih (et_te c L p1) (n + 2) (i + 1) _ (upd (upd v n z.2) (n + 1) 0) (by omega) (et_oo_go H H3) (by omega)
        refine ⟨o, et_oo_tr H3 oo, fun m0 m f hS hf => ?_, fun m0 m f d hM hf => ?_⟩
        · obtain ⟨f, rfl⟩ : ∃ f', f = f' + 1 := ⟨f - 1, by omega⟩
          refine cls _ m0 m f hS hf fun m1 hS1 => et_cPart hL (by omega) hS1 (fun h => by rw [hpt] at h; cases h) (fun z' hz' m3 hS3 => ?_)
          rw [hpt] at hz'
          obtain rfl := Option.some.inj hz'
          unfold f_X8_takesSum_j70
          rw [if_neg (show ¬ nI (i + 1) ≤ 0 from nI_nle (by omega) (by omega))]
          obtain ⟨m4, e4, e5, _⟩ := et_put (by omega) et_sg9 hS3
          rw [e4, eb_clR]
          exact oc m0 m4 f e5 (by omega)
        · obtain ⟨f, rfl⟩ : ∃ f', f = f' + 1 := ⟨f - 1, by omega⟩
          refine mdl _ m0 m f d hM hf fun m1 hM1 => et_mPart hL (by omega) hM1 (fun h => by rw [hpt] at h; cases h) (fun z' hz' m3 hM3 => ?_)
          rw [hpt] at hz'
          obtain rfl := Option.some.inj hz'
          rw [if_neg (by decide)]
          obtain ⟨m4, e4, e5, _⟩ := et_emits (x := 9) (y := 0) (by omega) hM3
          rw [e4, eb_clR]
          exact eb_some (om m0 m4 f d e5 (by omega))
theorem et_sum (hL : L ≤ 400) (hT : T.length < 29) (H : et_H L b p n s T) : et_J c L f_X8_takesSum f_X12_readSum d b p n s v (false :: T) := by
  have hp := H.2.2.1
  have hn4 := H.2.1
  have cls : ∀ (o : et_Lo) (m0 m : ea_M), eb_W (et_cp (fun m3 => some (.inr (.inl (0, m3)))) (f_X8_takesSum_j70 (nI 0)) m) (Sum.elim (fun y => eb_W (ea_loop f_X8_takesSum_s2 99999 y) (et_sR c L m0 o)) (et_sR c L m0 o)) → eb_W (f_X8_takesSum m) (et_CL c L m0 o) := by
    intro o m0 m hK
    unfold f_X8_takesSum
    have k : eb_W (ea_loop f_X8_takesSum_s2 ea_fuel (0, m)) (et_sR c L m0 o) := by
      refine et_lp (f := 99999) ?_
      unfold f_X8_takesSum_s2
      dsimp only
      rw [if_neg (by decide)]
      exact hK
    obtain ⟨r, er, y, rfl, hy⟩ := k
    rw [er]
    exact eb_some hy
  cases hpt : et_pt c L p with
  | none =>
    refine ⟨.inl (et_sb c L p), (et_sb_spec hL hp).2.1, fun m0 m hS => ?_, fun m0 m hM => ?_⟩
    · exact cls _ m0 m (et_cPart hL hn4 hS (fun _ m3 hX => eb_some ⟨_, rfl, rfl, hX⟩) (fun z hz => by rw [hpt] at hz; cases hz))
    · unfold f_X12_readSum
      refine et_mPart hL hn4 hM (fun _ m3 hX h12 => ?_) (fun z hz => by rw [hpt] at hz; cases hz)
      rw [if_pos rfl]
      exact eb_some ⟨rfl, hX, h12⟩
  | some z =>
    obtain ⟨z1, z2, z3⟩ := et_pt_lt (T := T) hL hp hpt
    have H1 : et_oo L b p n s v (false :: T) (.inr (et_te c L p, n + 1, upd s n z.1, upd v n z.2)) := et_oo_put H z1 z2 (z3 (by omega))
    obtain ⟨o, oo, oc, om⟩ := et_sumT (c := c) hL hT 400 (et_te c L p) (n + 1) 0 _ (upd v n z.2) (by omega) (et_oo_go H H1) (by omega)
    refine ⟨o, et_oo_tr H1 oo, fun m0 m hS => ?_, fun m0 m hM => ?_⟩
    · refine cls _ m0 m (et_cPart hL hn4 hS (fun h => by rw [hpt] at h; cases h) (fun z' hz' m3 hS3 => ?_))
      rw [hpt] at hz'
      obtain rfl := Option.some.inj hz'
      unfold f_X8_takesSum_j70
      rw [if_pos (by decide)]
      exact oc m0 m3 99999 hS3 (by omega)
    · unfold f_X12_readSum
      refine et_mPart hL hn4 hM (fun h => by rw [hpt] at h; cases h) (fun z' hz' m3 hM3 => ?_)
      rw [hpt] at hz'
      obtain rfl := Option.some.inj hz'
      rw [if_neg (by decide)]
      obtain ⟨r, er, hr⟩ := om m0 m3 ea_fuel d hM3 (by unfold ea_fuel; omega)
      rw [er]
      cases o with
      | inl g =>
        obtain ⟨mm, rfl, h1, h2⟩ := hr
        exact eb_some ⟨rfl, h1, h2⟩
      | inr q =>
        obtain ⟨mm, rfl, h1⟩ := hr
        exact eb_some ⟨rfl, h1⟩
/-! so many alike things joined by a word -/
def et_gs (B : ea_M → Option (Int32 × ea_M)) (j : Nat) (g : Int32) (x : Int32 × Int32 × ea_M) : Option ((Int32 × Int32 × ea_M) ⊕ (Int32 × ea_M)) :=
  if 400 ≤ x.2.1 then some (.inr (x.1, x.2.2)) else if x.1 = 0 then some (.inr (x.1, x.2.2)) else
  ea_cl (f_X9_sees 49 j x.2.2) fun r4 m3 => if r4 = 0 then some (.inr (x.1, m3)) else ea_cl (f_X9_step 49 m3) fun r6 m5 => ea_cl (B m5) fun r8 m7 => ea_cl (f_X7_put 38 g m7) fun r10 m9 => some (.inl (r8, x.2.1 + 1, m9))
def et_gb (B : ea_M → Option (Int32 × ea_M)) (j : Nat) (g : Int32) (m : ea_M) : Option (Int32 × ea_M) :=
  ea_cl (B m) fun r2 m1 => (ea_loop (et_gs B j g) ea_fuel (r2, 0, m1)).bind fun x => ea_gz x.1 (some (x.1, x.2))
def et_hs (B : ea_M → Option (Int32 × ea_M)) (j : Nat) (g : Int32) (x : ea_M) : Option (ea_M ⊕ ((Int32 × ea_M) ⊕ ea_M)) :=
  ea_cl (f_X12_passes j x) fun r4 m3 => if r4 = 0 then some (.inr (.inr m3)) else ea_cl (B m3) fun r6 m5 => if r6 = 0 then some (.inr (.inl (0, m5))) else ea_cl (f_X12_emits g 0 m5) fun r8 m7 => some (.inl m7)
def et_hb (B : ea_M → Option (Int32 × ea_M)) (j : Nat) (g : Int32) (m : ea_M) : Option (Int32 × ea_M) :=
  ea_cl (B m) fun r2 m1 => if r2 = 0 then some (0, m1) else ea_sl (ea_loop (et_hs B j g) ea_fuel m1) (fun t => some t) (fun x => some (1, x))
theorem et_joinT {B B' : ea_M → Option (Int32 × ea_M)} {j j' K : Nat} {g x : Int32} (hL : L ≤ 400) (hj : j < ea_str.length) (hj' : j' < ea_str.length) (hj0 : 0 < ea_tl j') (hjj : (ea_str.getD j' ("", 0, "")).2.2 = (ea_str.getD j ("", 0, "")).2.2) (hg : eb_sg g x 0) (hx : ∀ T, eb_t1 x (true :: true :: T) = some (true :: T))
    (hB : ∀ p n s v T, et_H L b p n s T → T.length ≤ K → et_J c L B B' d b p n s v (true :: T)) (hT : T.length + 1 ≤ K) (k : Nat) : ∀ (p n i : Nat) (s v : Nat → Int32), L - p ≤ k → et_H L b p n s (true :: T) → i + 4 ≤ p → ∃ o, et_oo L b p n s v (true :: T) o ∧
    (∀ m0 m f, et_LS c L m0 m p n s v → L - p + 1 < f → eb_W (ea_loop (et_gs B j g) f (1, nI i, m)) (et_CL c L m0 o)) ∧
    (∀ m0 m f, et_LM c L m0 m p n s v d → L - p < f → eb_W (ea_loop (et_hs B' j' x) f m) (et_sM c L m0 d o)) := by
  induction k with
  | zero =>
    intro p n i s v hk H hi
    have hp := H.2.2.1
    have hs : et_w c L p j = false := by
      cases hw : et_w c L p j with
      | false => rfl
      | true => have := et_w_lt hL hp hw; have := (et_te_le (c := c) hL hp).2.1; omega
    refine ⟨.inr (p, n, s, v), et_oo_same H, fun m0 m f hS hf => ?_, fun m0 m f hM hf => ?_⟩
    · obtain ⟨f, rfl⟩ : ∃ f', f = f' + 1 := ⟨f - 1, by omega⟩
      refine et_lp ?_
      unfold et_gs
      dsimp only
      rw [if_neg (show ¬ 400 ≤ nI i from (show ¬ nI 400 ≤ nI i from nI_ge (by omega) (by decide))), if_neg (by decide), et_sees hL hj hS.1, eb_clR, hs, show eb_b2 false = 0 from rfl, if_pos rfl]
      exact eb_some ⟨rfl, hS⟩
    · obtain ⟨f, rfl⟩ : ∃ f', f = f' + 1 := ⟨f - 1, by omega⟩
      refine et_lp ?_
      unfold et_hs
      refine et_mPass hL hj' hj0 hM.1 (fun _ m1 k1 k2 _ => ?_) (fun h => by rw [et_w_eq hjj, hs] at h; cases h)
      rw [if_pos rfl]
      exact eb_some ⟨m1, rfl, et_LM_F hM k1 k2⟩
  | succ k ih =>
    intro p n i s v hk H hi
    have hp := H.2.2.1
    have hn4 := H.2.1
    cases hs : et_w c L p j with
    | false =>
      refine ⟨.inr (p, n, s, v), et_oo_same H, fun m0 m f hS hf => ?_, fun m0 m f hM hf => ?_⟩
      · obtain ⟨f, rfl⟩ : ∃ f', f = f' + 1 := ⟨f - 1, by omega⟩
        refine et_lp ?_
        unfold et_gs
        dsimp only
        rw [if_neg (show ¬ 400 ≤ nI i from (show ¬ nI 400 ≤ nI i from nI_ge (by omega) (by decide))), if_neg (by decide), et_sees hL hj hS.1, eb_clR, hs, show eb_b2 false = 0 from rfl, if_pos rfl]
        exact eb_some ⟨rfl, hS⟩
      · obtain ⟨f, rfl⟩ : ∃ f', f = f' + 1 := ⟨f - 1, by omega⟩
        refine et_lp ?_
        unfold et_hs
        refine et_mPass hL hj' hj0 hM.1 (fun _ m1 k1 k2 _ => ?_) (fun h => by rw [et_w_eq hjj, hs] at h; cases h)
        rw [if_pos rfl]
        exact eb_some ⟨m1, rfl, et_LM_F hM k1 k2⟩
    | true =>
      have hlt := et_w_lt hL hp hs
      have hp1 := (et_te_le (c := c) hL hp).2.1
      obtain ⟨p1, ep1⟩ : ∃ p1, p1 = et_te c L p := ⟨_, rfl⟩
      rw [← ep1] at hlt hp1
      have H1 : et_H L b p1 n s (true :: T) := ⟨H.1, by omega, hp1, H.2.2.2⟩
      obtain ⟨o1, oo1, oc1, om1⟩ := hB p1 n s v (true :: T) H1 (by rw [List.length_cons]; omega)
      cases o1 with
      | inl g1 =>
        refine ⟨.inl g1, oo1, fun m0 m f hS hf => ?_, fun m0 m f hM hf => ?_⟩
        · obtain ⟨f, rfl⟩ : ∃ f', f = f' + 1 + 1 := ⟨f - 2, by omega⟩
          refine et_lp ?_
          unfold et_gs
          dsimp only
          rw [if_neg (show ¬ 400 ≤ nI i from (show ¬ nI 400 ≤ nI i from nI_ge (by omega) (by decide))), if_neg (by decide), et_sees hL hj hS.1, eb_clR, hs, show eb_b2 true = 1 from rfl, if_neg (by decide)]
          refine et_cStep hL (by decide) hS.1 fun r m1 k1 k2 _ => ?_
          refine eb_cl (oc1 m0 m1 (by rw [ep1]; exact et_LS_fa hS k1 k2)) fun r8 m7 h7 => ?_
          obtain ⟨e7, h7⟩ := h7
          dsimp only at e7 h7
          obtain ⟨m9, e9, h9⟩ := et_putX (g := g) h7
          rw [e9, eb_clR, e7, nI_1]
          refine eb_some (et_lp ?_)
          dsimp only
          by_cases h4 : i + 1 < 400
          · rw [if_neg (show ¬ 400 ≤ nI (i + 1) from (show ¬ nI 400 ≤ nI (i + 1) from nI_ge h4 (by decide))), if_pos rfl]
            exact eb_some ⟨rfl, h9⟩
          · rw [if_pos (show 400 ≤ nI (i + 1) from (show nI 400 ≤ nI (i + 1) from nI_le (by omega) (by omega)))]
            exact eb_some ⟨rfl, h9⟩
        · obtain ⟨f, rfl⟩ : ∃ f', f = f' + 1 := ⟨f - 1, by omega⟩
          refine et_lp ?_
          unfold et_hs
          refine et_mPass hL hj' hj0 hM.1 (fun h => by rw [et_w_eq hjj, hs] at h; cases h) (fun _ m1 k1 k2 => ?_)
          rw [if_neg (by decide)]
          refine eb_cl (om1 m0 m1 (by rw [ep1]; exact et_LM_F hM k1 k2)) fun r6 m5 h5 => ?_
          obtain ⟨e5, h5, h12⟩ := h5
          dsimp only at e5 h5 h12
          rw [e5, if_pos rfl]
          exact eb_some ⟨m5, rfl, h5, h12⟩
      | inr q =>
        have H2 := et_oo_go H1 oo1
        have q1 := oo1.1
        have hq4 := H2.2.1
        have hqL := H2.2.2.1
        have H3 : et_oo L b p n s v (true :: T) (.inr (q.1, q.2.1 + 1, upd q.2.2.1 q.2.1 x, upd q.2.2.2 q.2.1 0)) := by
          obtain ⟨a1, a2, a3, a4, a5, a6⟩ := oo1
          exact ⟨by dsimp only; omega, a2, by dsimp only; omega, by dsimp only; omega, fun i hi => ⟨(et_u (by omega)).trans (a5 i hi).1, (et_u (by omega)).trans (a5 i hi).2⟩, et_ty_put H2.1 a6 (hx T)⟩
        have hn5 : q.2.1 + 1 + 4 ≤ q.1 := by
          obtain ⟨a1, a2, a3, a4, a5, a6⟩ := oo1
          omega
        obtain ⟨o, oo, oc, om⟩ := ih q.1 (q.2.1 + 1) (i + 1) _ (upd q.2.2.2 q.2.1 0) (by omega) (et_oo_go H H3) (by omega)
        refine ⟨o, et_oo_tr H3 oo, fun m0 m f hS hf => ?_, fun m0 m f hM hf => ?_⟩
        · obtain ⟨f, rfl⟩ : ∃ f', f = f' + 1 := ⟨f - 1, by omega⟩
          refine et_lp ?_
          unfold et_gs
          dsimp only
          rw [if_neg (show ¬ 400 ≤ nI i from (show ¬ nI 400 ≤ nI i from nI_ge (by omega) (by decide))), if_neg (by decide), et_sees hL hj hS.1, eb_clR, hs, show eb_b2 true = 1 from rfl, if_neg (by decide)]
          refine et_cStep hL (by decide) hS.1 fun r m1 k1 k2 _ => ?_
          refine eb_cl (oc1 m0 m1 (by rw [ep1]; exact et_LS_fa hS k1 k2)) fun r8 m7 h7 => ?_
          obtain ⟨e7, h7⟩ := h7
          dsimp only at e7 h7
          obtain ⟨m9, e9, h9, _⟩ := et_put (by omega) hg h7
          rw [e9, eb_clR, e7, nI_1]
          exact eb_some (oc m0 m9 f h9 (by omega))
        · obtain ⟨f, rfl⟩ : ∃ f', f = f' + 1 := ⟨f - 1, by omega⟩
          refine et_lp ?_
          unfold et_hs
          refine et_mPass hL hj' hj0 hM.1 (fun h => by rw [et_w_eq hjj, hs] at h; cases h) (fun _ m1 k1 k2 => ?_)
          rw [if_neg (by decide)]
          refine eb_cl (om1 m0 m1 (by rw [ep1]; exact et_LM_F hM k1 k2)) fun r6 m5 h5 => ?_
          obtain ⟨e5, h5⟩ := h5
          dsimp only at e5 h5
          rw [e5, if_neg (by decide)]
          obtain ⟨m7, e7, h7, _⟩ := et_emits (x := x) (y := 0) (by omega) h5
          rw [e7, eb_clR]
          exact eb_some (om m0 m7 f h7 (by omega))
theorem et_join {B B' : ea_M → Option (Int32 × ea_M)} {j j' K : Nat} {g x : Int32} (hL : L ≤ 400) (hj : j < ea_str.length) (hj' : j' < ea_str.length) (hj0 : 0 < ea_tl j') (hjj : (ea_str.getD j' ("", 0, "")).2.2 = (ea_str.getD j ("", 0, "")).2.2) (hg : eb_sg g x 0) (hx : ∀ T, eb_t1 x (true :: true :: T) = some (true :: T))
    (hB : ∀ p n s v T, et_H L b p n s T → T.length ≤ K → et_J c L B B' d b p n s v (true :: T)) (hT : T.length + 1 ≤ K) (H : et_H L b p n s T) : et_J c L (et_gb B j g) (et_hb B' j' x) d b p n s v (true :: T) := by
  have hp := H.2.2.1
  have hn4 := H.2.1
  obtain ⟨o1, oo1, oc1, om1⟩ := hB p n s v T H (by omega)
  cases o1 with
  | inl g1 =>
    refine ⟨.inl g1, oo1, fun m0 m hS => ?_, fun m0 m hM => ?_⟩
    · unfold et_gb
      refine eb_cl (oc1 m0 m hS) fun r m1 h1 => ?_
      obtain ⟨e1, h1⟩ := h1
      dsimp only at e1 h1
      rw [e1, show ea_loop (et_gs B j g) ea_fuel (0, 0, m1) = some (0, m1) from eb_loop_inr (by unfold et_gs; dsimp only; rw [if_neg (by decide), if_pos rfl]) 99999, eb_obR]
      exact eb_some ⟨rfl, h1⟩
    · unfold et_hb
      refine eb_cl (om1 m0 m hM) fun r m1 h1 => ?_
      obtain ⟨e1, h1, h12⟩ := h1
      dsimp only at e1 h1 h12
      rw [e1, if_pos rfl]
      exact eb_some ⟨rfl, h1, h12⟩
  | inr q =>
    have H2 := et_oo_go H oo1
    obtain ⟨o, oo, oc, om⟩ := et_joinT hL hj hj' hj0 hjj hg hx hB hT 400 q.1 q.2.1 0 q.2.2.1 q.2.2.2 (by omega) H2 (by have := H2.2.1; omega)
    refine ⟨o, et_oo_tr oo1 oo, fun m0 m hS => ?_, fun m0 m hM => ?_⟩
    · unfold et_gb
      refine eb_cl (oc1 m0 m hS) fun r m1 h1 => ?_
      obtain ⟨e1, h1⟩ := h1
      dsimp only at e1 h1
      rw [e1]
      refine eb_bind (oc m0 m1 ea_fuel h1 (by unfold ea_fuel; omega)) fun z hz => ?_
      have h01 : z.1 = 0 ∨ z.1 = 1 := by
        cases o with
        | inl f => exact Or.inl hz.1
        | inr q => exact Or.inr hz.1
      obtain ⟨r, mm⟩ := z
      dsimp only at h01 ⊢
      rcases h01 with rfl | rfl
      · exact eb_some hz
      · exact eb_some hz
    · unfold et_hb
      refine eb_cl (om1 m0 m hM) fun r m1 h1 => ?_
      obtain ⟨e1, h1⟩ := h1
      dsimp only at e1 h1
      rw [e1, if_neg (by decide)]
      obtain ⟨r, er, hr⟩ := om m0 m1 ea_fuel h1 (by unfold ea_fuel; omega)
      rw [er]
      cases o with
      | inl g =>
        obtain ⟨mm, rfl, h1, h2⟩ := hr
        exact eb_some ⟨rfl, h1, h2⟩
      | inr q =>
        obtain ⟨mm, rfl, h1⟩ := hr
        exact eb_some ⟨rfl, h1⟩
theorem et_both (A : Int32 → ea_M → Option (Int32 × ea_M)) (x : Int32) : f_X8_takesBoth A x = et_gb (A x) 32 (-13) := rfl
theorem et_either (A : Int32 → ea_M → Option (Int32 × ea_M)) (x : Int32) : f_X8_takesEither A x = et_gb (et_gb (A x) 32 (-13)) 33 (-14) := rfl
theorem et_allOf (A : ea_M → Option (Int32 × ea_M)) : f_X12_readAllOf A = et_hb A 71 13 := rfl
theorem et_cond (A : ea_M → Option (Int32 × ea_M)) : f_X12_readCond A = et_hb (et_hb A 71 13) 72 14 := rfl
theorem et_t13 (T : List Bool) : eb_t1 13 (true :: true :: T) = some (true :: T) := by
  unfold eb_t1
  rw [if_neg (by decide), if_neg (by decide), if_neg (by decide), if_neg (by decide), if_neg (by decide)]
theorem et_t14 (T : List Bool) : eb_t1 14 (true :: true :: T) = some (true :: T) := by
  unfold eb_t1
  rw [if_neg (by decide), if_neg (by decide), if_neg (by decide), if_neg (by decide), if_neg (by decide)]
theorem et_condJ {A : Int32 → ea_M → Option (Int32 × ea_M)} {A' : ea_M → Option (Int32 × ea_M)} {K : Nat} (hL : L ≤ 400) (hA : ∀ p n s v T, et_H L b p n s T → T.length ≤ K → et_J c L (A (nI d)) A' d b p n s v (true :: T)) (hT : T.length + 2 ≤ K) (H : et_H L b p n s T) : et_J c L (f_X8_takesEither A (nI d)) (f_X12_readCond A') d b p n s v (true :: T) := by
  rw [et_either, et_cond]
  refine et_join (K := K - 1) hL (by decide) (by decide) (by decide +kernel) rfl (et_sgO (o := 14) (by decide)) et_t14 (fun p n s v T hH hT => ?_) (by omega) H
  exact et_join (K := K) hL (by decide) (by decide) (by decide +kernel) rfl (et_sgO (o := 13) (by decide)) et_t13 hA (by omega) hH
end CONDS
