section SUMS
variable {c : Nat → Nat} {L p n b d i : Nat} {m m0 : ea_M} {s v : Nat → Int32} {T T' : List Bool} {τ : Type} {Q : τ → Prop} {F : Int32 → ea_M → Option τ}
/-- the types of k steps from step i on -/
def et_ty (s : Nat → Int32) : Nat → Nat → List Bool → Option (List Bool)
  | 0, _, S => some S
  | k + 1, i, S => (eb_t1 (s i) S).bind (et_ty s k (i + 1))
theorem et_ty_snoc (s : Nat → Int32) : ∀ (k i : Nat) (S : List Bool), et_ty s (k + 1) i S = (et_ty s k i S).bind (eb_t1 (s (i + k)))
  | 0, i, S => by
    show (eb_t1 (s i) S).bind (fun S => some S) = eb_t1 (s (i + 0)) S
    rw [Nat.add_zero]
    cases eb_t1 (s i) S <;> rfl
  | k + 1, i, S => by
    show (eb_t1 (s i) S).bind (et_ty s (k + 1) (i + 1)) = ((eb_t1 (s i) S).bind (et_ty s k (i + 1))).bind (eb_t1 (s (i + (k + 1))))
    cases eb_t1 (s i) S with
    | none => rfl
    | some S' =>
      show et_ty s (k + 1) (i + 1) S' = (et_ty s k (i + 1) S').bind (eb_t1 (s (i + (k + 1))))
      rw [et_ty_snoc s k (i + 1) S', show i + 1 + k = i + (k + 1) by omega]
theorem et_ty_cg {s s' : Nat → Int32} (k : Nat) : ∀ (i : Nat) (S : List Bool), (∀ j, i ≤ j → j < i + k → s' j = s j) → et_ty s' k i S = et_ty s k i S := by
  induction k with
  | zero => intro i S _; rfl
  | succ k ih =>
    intro i S h
    unfold et_ty
    rw [h i (Nat.le_refl _) (by omega)]
    cases eb_t1 (s i) S with
    | none => rw [eb_obN, eb_obN]
    | some T => rw [eb_obR, eb_obR, ih (i + 1) T fun j h1 h2 => h j (by omega) (by omega)]
theorem et_ty_put {x : Int32} (hb : b ≤ n) (h : et_ty s (n - b) b [] = some T) (hx : eb_t1 x T = some T') : et_ty (upd s n x) (n + 1 - b) b [] = some T' := by
  rw [show n + 1 - b = (n - b) + 1 by omega, et_ty_snoc, et_ty_cg (s := s) (n - b) b [] (fun j h1 h2 => et_u (by omega)), h, eb_obR, show b + (n - b) = n by omega, et_us]
  exact hx
/-- where a part of a law's text leads: it is wrong there; or behind it so many steps stand -/
abbrev et_Lo : Type := Nat ⊕ (Nat × Nat × (Nat → Int32) × (Nat → Int32))
/-- all but the reader's row, the draft's length and its signs is as it was -/
def et_LF (m0 m : ea_M) : Prop := ∀ b i, b ≠ 49 → b ≠ 43 → ¬ (b = 38 ∧ i = 1) → m b i = m0 b i
theorem et_LF_refl (m : ea_M) : et_LF m m := fun _ _ _ _ _ => rfl
theorem et_LF_fa {m1 m2 : ea_M} (h : et_LF m0 m1) (k : et_fa 49 m1 m2) : et_LF m0 m2 := fun b i h1 h2 h3 => by rw [k b h1]; exact h b i h1 h2 h3
def et_LS (c : Nat → Nat) (L : Nat) (m0 m : ea_M) (p n : Nat) (s v : Nat → Int32) : Prop := et_S c L 49 m p ∧ m 38 1 = nI n ∧ (∀ i, i < n → eb_sg (m 43 i) (s i) (v i)) ∧ et_LF m0 m
theorem et_LS_fa {m1 : ea_M} {q : Nat} (h : et_LS c L m0 m p n s v) (k : et_fa 49 m m1) (hS : et_S c L 49 m1 q) : et_LS c L m0 m1 q n s v := ⟨hS, by rw [k 38 (by decide)]; exact h.2.1, fun i hi => by rw [k 43 (by decide)]; exact h.2.2.1 i hi, et_LF_fa h.2.2.2 k⟩
/-- a refusal -/
def et_LX (m0 m : ea_M) (f : Nat) : Prop := et_LF m0 m ∧ m 49 6 = nI f ∧ eb_rg (m 38 1) 400
theorem et_LX_fa {m1 : ea_M} {f : Nat} (h : et_LS c L m0 m p n s v) (hn : n ≤ 400) (k : et_fa 49 m m1) (h6 : m1 49 6 = nI f) : et_LX m0 m1 f := ⟨et_LF_fa h.2.2.2 k, h6, by rw [k 38 (by decide)]; exact ⟨n, hn, h.2.1⟩⟩
def et_CL (c : Nat → Nat) (L : Nat) (m0 : ea_M) (o : et_Lo) (z : Int32 × ea_M) : Prop := match o with
  | .inl f => z.1 = 0 ∧ et_LX m0 z.2 f
  | .inr q => z.1 = 1 ∧ et_LS c L m0 z.2 q.1 q.2.1 q.2.2.1 q.2.2.2
/-- all but the reference's point, begin, depth, steps and the steps of its draft is as it was -/
def et_DF (m0 m : ea_M) : Prop := ∀ b i, ¬ (b = 272 ∧ (i = 10 ∨ i = 12 ∨ i = 13 ∨ i = 16)) → ¬ (b = 273 ∧ 1380 ≤ i) → m b i = m0 b i
theorem et_DF_refl (m : ea_M) : et_DF m m := fun _ _ _ _ => rfl
theorem et_DF_F {m1 m2 : ea_M} (h : et_DF m0 m1) (k : et_F m1 m2) : et_DF m0 m2 := fun b i h1 h2 => by rw [k b i (by omega)]; exact h b i h1 h2
def et_LM (c : Nat → Nat) (L : Nat) (m0 m : ea_M) (p n : Nat) (s v : Nat → Int32) (d : Nat) : Prop := et_M c L m p ∧ m 272 16 = nI n ∧ m 272 13 = nI d ∧ (∀ i, i < n → m 273 (1380 + 2 * i) = s i ∧ m 273 (1381 + 2 * i) = v i) ∧ et_DF m0 m
theorem et_LM_F {m1 : ea_M} {q : Nat} (h : et_LM c L m0 m p n s v d) (k : et_F m m1) (hM : et_M c L m1 q) : et_LM c L m0 m1 q n s v d := ⟨hM, by rw [k 272 16 (by omega)]; exact h.2.1, by rw [k 272 13 (by omega)]; exact h.2.2.1, fun i hi => by rw [et_F_w k]; exact h.2.2.2.1 i hi, et_DF_F h.2.2.2.2 k⟩
def et_ME (c : Nat → Nat) (L : Nat) (m0 : ea_M) (d : Nat) (o : et_Lo) (z : Int32 × ea_M) : Prop := match o with
  | .inl f => z.1 = 0 ∧ et_DF m0 z.2 ∧ z.2 272 12 = nI f
  | .inr q => z.1 = 1 ∧ et_LM c L m0 z.2 q.1 q.2.1 q.2.2.1 q.2.2.2 d
/-- what holds of it -/
def et_oo (L b p n : Nat) (s v : Nat → Int32) (T' : List Bool) (o : et_Lo) : Prop := match o with
  | .inl f => f ≤ L
  | .inr q => p ≤ q.1 ∧ q.1 ≤ L ∧ n ≤ q.2.1 ∧ q.2.1 + p ≤ n + q.1 ∧ (∀ i, i < n → q.2.2.1 i = s i ∧ q.2.2.2 i = v i) ∧ et_ty q.2.2.1 (q.2.1 - b) b [] = some T'
/-- where it begins -/
def et_H (L b p n : Nat) (s : Nat → Int32) (T : List Bool) : Prop := b ≤ n ∧ n + 4 ≤ p ∧ p ≤ L ∧ et_ty s (n - b) b [] = some T
theorem et_oo_go {q : Nat × Nat × (Nat → Int32) × (Nat → Int32)} {T1 : List Bool} (h : et_H L b p n s T) (ho : et_oo L b p n s v T1 (.inr q)) : et_H L b q.1 q.2.1 q.2.2.1 T1 := by
  obtain ⟨a1, a2, a3, a4, _, a6⟩ := ho
  exact ⟨by have := h.1; omega, by have := h.2.1; omega, a2, a6⟩
theorem et_oo_tr {q : Nat × Nat × (Nat → Int32) × (Nat → Int32)} {T1 : List Bool} {o : et_Lo} (ho : et_oo L b p n s v T1 (.inr q)) (h2 : et_oo L b q.1 q.2.1 q.2.2.1 q.2.2.2 T' o) : et_oo L b p n s v T' o := by
  obtain ⟨a1, a2, a3, a4, a5, a6⟩ := ho
  cases o with
  | inl f => exact h2
  | inr r =>
    obtain ⟨c1, c2, c3, c4, c5, c6⟩ := h2
    exact ⟨by omega, c2, by omega, by omega, fun i hi => ⟨(c5 i (by omega)).1.trans (a5 i hi).1, (c5 i (by omega)).2.trans (a5 i hi).2⟩, c6⟩
/-- a step put behind a thing of the text -/
theorem et_oo_put {x y : Int32} {q : Nat} (h : et_H L b p n s T) (hq : p < q) (hqL : q ≤ L) (hx : eb_t1 x T = some T') : et_oo L b p n s v T' (.inr (q, n + 1, upd s n x, upd v n y)) :=
  ⟨by dsimp only; omega, hqL, by dsimp only; omega, by dsimp only; omega, fun i hi => ⟨et_u (by omega), et_u (by omega)⟩, et_ty_put h.1 h.2.2.2 hx⟩
theorem et_put {x y g : Int32} (hn : n < 400) (hg : eb_sg g x y) (h : et_LS c L m0 m p n s v) : ∃ m1, f_X7_put 38 g m = some (0, m1) ∧ et_LS c L m0 m1 p (n + 1) (upd s n x) (upd v n y) ∧ m1 49 = m 49 := by
  obtain ⟨hS, h1, h2, h3⟩ := h
  refine ⟨ea_st (ea_st m 43 n g) 38 1 (nI (n + 1)), ?_, ⟨et_S_fr hS (by rw [eb_stA _ _ _ (by decide), eb_stA _ _ _ (by decide)]) (by rw [eb_stA _ _ _ (by decide), eb_stA _ _ _ (by decide)]), eb_st _ _ _ _, fun i hi => ?_, fun b i q1 q2 q3 => ?_⟩, by rw [eb_stA _ _ _ (by decide), eb_stA _ _ _ (by decide)]⟩
  · unfold f_X7_put
    rw [eb_bdR, h1, if_neg (show ¬ 400 ≤ nI n from (show ¬ nI 400 ≤ nI n from nI_ge hn (by decide))), eb_bdR, eb_gN hn (by decide), nI_clamp (by omega), eb_bdR, eb_bdR, eb_stA _ _ _ (by decide), h1, nI_1, eb_bdR]
  · rw [eb_stA _ _ _ (by decide), eb_sts]
    by_cases q : i = n
    · rw [if_pos ⟨rfl, q⟩, q, et_us, et_us]; exact hg
    · rw [if_neg (fun z => q z.2), et_u q, et_u q]; exact h2 i (by omega)
  · rw [eb_sts, if_neg q3, eb_stA _ _ _ q2]; exact h3 b i q1 q2 q3
/-- behind a refusal a sign may yet be put -/
theorem et_putX {g : Int32} {f : Nat} (h : et_LX m0 m f) : ∃ m1, f_X7_put 38 g m = some (0, m1) ∧ et_LX m0 m1 f := by
  obtain ⟨h1, h2, n, hn, h3⟩ := h
  unfold f_X7_put
  rw [eb_bdR, h3]
  by_cases h4 : n < 400
  · refine ⟨ea_st (ea_st m 43 n g) 38 1 (nI (n + 1)), ?_, fun b i q1 q2 q3 => ?_, ?_, ⟨n + 1, by omega, eb_st _ _ _ _⟩⟩
    · rw [if_neg (show ¬ 400 ≤ nI n from (show ¬ nI 400 ≤ nI n from nI_ge h4 (by decide))), eb_bdR, eb_gN h4 (by decide), nI_clamp (by omega), eb_bdR, eb_bdR, eb_stA _ _ _ (by decide), h3, nI_1, eb_bdR]
    · rw [eb_sts, if_neg q3, eb_stA _ _ _ q2]; exact h1 b i q1 q2 q3
    · rw [eb_stA _ _ _ (by decide), eb_stA _ _ _ (by decide)]; exact h2
  · exact ⟨m, by rw [if_pos (show 400 ≤ nI n from (show nI 400 ≤ nI n from nI_le (by omega) (by omega)))], h1, h2, ⟨n, hn, h3⟩⟩
theorem et_sgF {f : Nat} (h : f < 8) : eb_sg (-1 - nI f) (nI f) 0 := Or.inr (Or.inl ⟨f, h, rfl, rfl, rfl⟩)
theorem et_sgN {x : Nat} (h : x ≤ 999) : eb_sg (nI x) (nI 8) (nI x) := Or.inl ⟨x, h, rfl, rfl, rfl⟩
theorem et_sgO {o : Nat} (h : 9 ≤ o ∧ o ≤ 14) : eb_sg (0 - nI o) (nI o) 0 := Or.inr (Or.inr ⟨o, h.1, h.2, rfl, rfl, rfl⟩)
theorem et_emits {x y : Int32} (hn : n < 400) (h : et_LM c L m0 m p n s v d) : ∃ m1, f_X12_emits x y m = some (0, m1) ∧ et_LM c L m0 m1 p (n + 1) (upd s n x) (upd v n y) d ∧ m1 272 12 = m 272 12 := by
  obtain ⟨hM, h16, h13, h2, h3⟩ := h
  have e1 : (1380 : Int32) + 2 * nI n = nI (1380 + 2 * n) := by show nI 1380 + nI 2 * nI n = _; rw [pk_mul, nI_add]
  refine ⟨ea_st (ea_st (ea_st m 273 (1380 + 2 * n) x) 273 (1381 + 2 * n) y) 272 16 (nI (n + 1)), ?_, ⟨et_M_cg hM ?_ ?_ ?_, eb_st _ _ _ _, ?_, fun i hi => ⟨?_, ?_⟩, fun b i q1 q2 => ?_⟩, ?_⟩
  · unfold f_X12_emits
    rw [eb_bdR, h16, eb_bdR, e1, eb_gN (by omega) (by decide), nI_clamp (by omega), eb_bdR, eb_bdR, eb_stA _ _ _ (by decide), h16, eb_bdR, e1, nI_1, show 1380 + 2 * n + 1 = 1381 + 2 * n by omega, eb_gN (by omega) (by decide), nI_clamp (by omega), eb_bdR, eb_bdR, eb_stA _ _ _ (by decide), eb_stA _ _ _ (by decide), h16, nI_1, eb_bdR]
  · rw [eb_stI _ _ _ (by decide), eb_stA _ _ _ (by decide), eb_stA _ _ _ (by decide)]
  · rw [eb_stI _ _ _ (by decide), eb_stA _ _ _ (by decide), eb_stA _ _ _ (by decide)]
  · rw [eb_stA _ _ _ (by decide), eb_stA _ _ _ (by decide), eb_stA _ _ _ (by decide)]
  · rw [eb_stI _ _ _ (by decide), eb_stA _ _ _ (by decide), eb_stA _ _ _ (by decide)]; exact h13
  · rw [eb_stA _ _ _ (by decide), eb_sts, if_neg (by omega), eb_sts]
    by_cases q : i = n
    · rw [if_pos ⟨rfl, by rw [q]⟩, q, et_us]
    · rw [if_neg (by omega), et_u q]; exact (h2 i (by omega)).1
  · rw [eb_stA _ _ _ (by decide), eb_sts]
    by_cases q : i = n
    · rw [if_pos ⟨rfl, by rw [q]⟩, q, et_us]
    · rw [if_neg (by omega), eb_sts, if_neg (by omega), et_u q]; exact (h2 i (by omega)).2
  · rw [eb_sts, if_neg (by omega), eb_sts, if_neg (by omega), eb_sts, if_neg (by omega)]; exact h3 b i q1 q2
  · rw [eb_stI _ _ _ (by decide), eb_stA _ _ _ (by decide), eb_stA _ _ _ (by decide)]
/-! a part of a sum -/
def et_pt (c : Nat → Nat) (L p : Nat) : Option (Int32 × Int32) :=
  if et_w c L p 26 = true then some (nI 0, 0) else if et_w c L p 27 = true then some (nI 1, 0) else if et_w c L p 28 = true then some (nI 2, 0) else if et_w c L p 29 = true then some (nI 3, 0) else if et_w c L p 30 = true then some (nI 4, 0) else if et_w c L p 31 = true then some (nI 5, 0)
  else (et_num c L p 0 999).map fun x => (nI 8, nI x)
def et_fs (c : Nat → Nat) (L p : Nat) : Option Nat :=
  if et_w c L p 26 = true then some 0 else if et_w c L p 27 = true then some 1 else if et_w c L p 28 = true then some 2 else if et_w c L p 29 = true then some 3 else if et_w c L p 30 = true then some 4 else if et_w c L p 31 = true then some 5 else none
theorem et_fs_some {f : Nat} (h : et_fs c L p = some f) : f < 6 ∧ et_pt c L p = some (nI f, 0) ∧ et_kd c L (et_sb c L p) = 1 := by
  unfold et_fs at h
  unfold et_pt
  have hk : ∀ j, et_w c L p j = true → et_kd c L (et_sb c L p) = 1 := fun j hj => (of_decide_eq_true hj).1
  split at h
  · rename_i q; have e := Option.some.inj h; subst e; rw [if_pos q]; exact ⟨by decide, rfl, hk _ q⟩
  · rename_i q0; split at h
    · rename_i q; have e := Option.some.inj h; subst e; rw [if_neg q0, if_pos q]; exact ⟨by decide, rfl, hk _ q⟩
    · rename_i q1; split at h
      · rename_i q; have e := Option.some.inj h; subst e; rw [if_neg q0, if_neg q1, if_pos q]; exact ⟨by decide, rfl, hk _ q⟩
      · rename_i q2; split at h
        · rename_i q; have e := Option.some.inj h; subst e; rw [if_neg q0, if_neg q1, if_neg q2, if_pos q]; exact ⟨by decide, rfl, hk _ q⟩
        · rename_i q3; split at h
          · rename_i q; have e := Option.some.inj h; subst e; rw [if_neg q0, if_neg q1, if_neg q2, if_neg q3, if_pos q]; exact ⟨by decide, rfl, hk _ q⟩
          · rename_i q4; split at h
            · rename_i q; have e := Option.some.inj h; subst e; rw [if_neg q0, if_neg q1, if_neg q2, if_neg q3, if_neg q4, if_pos q]; exact ⟨by decide, rfl, hk _ q⟩
            · cases h
theorem et_fs_none (h : et_fs c L p = none) : et_pt c L p = (et_num c L p 0 999).map fun x => (nI 8, nI x) := by
  unfold et_fs at h
  unfold et_pt
  split at h
  · cases h
  · rename_i q0; split at h
    · cases h
    · rename_i q1; split at h
      · cases h
      · rename_i q2; split at h
        · cases h
        · rename_i q3; split at h
          · cases h
          · rename_i q4; split at h
            · cases h
            · rename_i q5
              rw [if_neg q0, if_neg q1, if_neg q2, if_neg q3, if_neg q4, if_neg q5]
theorem et_factSeen (hL : L ≤ 400) (h : et_S c L 49 m p) : f_X8_factSeen m = some (match et_fs c L p with | none => -1 | some f => nI f, m) := by
  unfold f_X8_factSeen et_fs
  rw [et_sees hL (by decide) h, eb_clR]
  cases et_w c L p 26 with
  | true => rfl
  | false =>
    rw [show eb_b2 false = 0 from rfl, if_pos rfl, if_neg (by decide), et_sees hL (by decide) h, eb_clR]
    cases et_w c L p 27 with
    | true => rfl
    | false =>
      rw [show eb_b2 false = 0 from rfl, if_pos rfl, if_neg (by decide), et_sees hL (by decide) h, eb_clR]
      cases et_w c L p 28 with
      | true => rfl
      | false =>
        rw [show eb_b2 false = 0 from rfl, if_pos rfl, if_neg (by decide), et_sees hL (by decide) h, eb_clR]
        cases et_w c L p 29 with
        | true => rfl
        | false =>
          rw [show eb_b2 false = 0 from rfl, if_pos rfl, if_neg (by decide), et_sees hL (by decide) h, eb_clR]
          cases et_w c L p 30 with
          | true => rfl
          | false =>
            rw [show eb_b2 false = 0 from rfl, if_pos rfl, if_neg (by decide), et_sees hL (by decide) h, eb_clR]
            cases et_w c L p 31 with
            | true => rfl
            | false => rfl
/-- the part of a sum as the class takes it -/
def et_cp (K0 K1 : ea_M → Option τ) (m : ea_M) : Option τ :=
  ea_cl (f_X8_factSeen m) fun r2 m1 => if r2 = (-1) then ea_cl (f_X9_takesNumber 49 0 999 m1) fun r4 m3 => if r4 = 0 then K0 m3 else ea_bd (m3 49 5) fun x5 => ea_cl (f_X7_put 38 x5 m3) fun r7 m6 => K1 m6
  else ea_cl (f_X7_putFact 38 r2 m1) fun r19 m18 => ea_cl (f_X9_step 49 m18) fun r21 m20 => K1 m20
theorem et_pt_lt {z : Int32 × Int32} (hL : L ≤ 400) (hp : p ≤ L) (h : et_pt c L p = some z) : p < et_te c L p ∧ et_te c L p ≤ L ∧ (T.length < 31 → eb_t1 z.1 T = some (false :: T)) := by
  have hle := (et_te_le (c := c) hL hp).2.1
  cases hf : et_fs c L p with
  | some f =>
    obtain ⟨f1, f2, f3⟩ := et_fs_some hf
    rw [f2] at h
    have e := Option.some.inj h
    rw [← e]
    refine ⟨(et_te_le hL hp).2.2 (by omega), hle, fun hT => ?_⟩
    have : ∀ f, f < 6 → ¬ (nI f = 6 ∨ nI f = 7) ∧ nI f ≤ 8 := by decide +kernel
    unfold eb_t1
    rw [if_neg (this f f1).1, if_pos (this f f1).2, if_pos hT]
  | none =>
    rw [et_fs_none hf] at h
    cases hn : et_num c L p 0 999 with
    | none => rw [hn] at h; cases h
    | some x =>
      rw [hn] at h
      have e := Option.some.inj h
      rw [← e]
      refine ⟨(et_num_some hL hp hn).2.2.2, hle, fun hT => ?_⟩
      show eb_t1 (nI 8) T = _
      unfold eb_t1
      rw [if_neg (by decide), if_pos (by decide), if_pos hT]
theorem et_cPart {K0 K1 : ea_M → Option τ} (hL : L ≤ 400) (hn : n + 4 ≤ p) (h : et_LS c L m0 m p n s v)
    (h0 : et_pt c L p = none → ∀ m1, et_LX m0 m1 (et_sb c L p) → eb_W (K0 m1) Q)
    (h1 : ∀ z, et_pt c L p = some z → ∀ m1, et_LS c L m0 m1 (et_te c L p) (n + 1) (upd s n z.1) (upd v n z.2) → eb_W (K1 m1) Q) : eb_W (et_cp K0 K1 m) Q := by
  have hp := h.1.1.1
  unfold et_cp
  rw [et_factSeen hL h.1, eb_clR]
  cases hf : et_fs c L p with
  | some f =>
    obtain ⟨f1, f2, f3⟩ := et_fs_some hf
    dsimp only
    rw [if_neg (et_nI_ne (by omega))]
    obtain ⟨m1, e1, e2, e3⟩ := et_put (g := -1 - nI f) (by omega) (et_sgF (f := f) (by omega)) h
    unfold f_X7_putFact
    rw [e1, eb_clR, eb_clR]
    exact et_cStep hL (by decide) e2.1 fun r m2 k1 k2 _ => h1 _ f2 m2 (et_LS_fa e2 k1 k2)
  | none =>
    have hpt := et_fs_none hf
    dsimp only
    rw [if_pos rfl]
    refine et_cNum hL (by decide) h.1 (fun hnn m3 k1 k2 => ?_) (fun x hnx m3 k1 k2 k3 => ?_)
    · rw [if_pos rfl]
      exact h0 (by rw [hpt, hnn]; rfl) m3 (et_LX_fa h (by omega) k1 k2)
    · rw [if_neg (by decide), eb_bdR, k3]
      obtain ⟨x1, _, _, _⟩ := et_num_some hL hp hnx
      obtain ⟨m1, e1, e2, e3⟩ := et_put (by omega) (et_sgN x1) (et_LS_fa h k1 k2)
      rw [e1, eb_clR]
      exact h1 (nI 8, nI x) (by rw [hpt, hnx]; rfl) m1 e2
theorem et_mPart (hL : L ≤ 400) (hn : n + 4 ≤ p) (h : et_LM c L m0 m p n s v d)
    (h0 : et_pt c L p = none → ∀ m1, et_DF m0 m1 → m1 272 12 = nI (et_sb c L p) → eb_W (F 0 m1) Q)
    (h1 : ∀ z, et_pt c L p = some z → ∀ m1, et_LM c L m0 m1 (et_te c L p) (n + 1) (upd s n z.1) (upd v n z.2) d → eb_W (F 1 m1) Q) : eb_W (ea_cl (f_X12_readPart m) F) Q := by
  have hp := h.1.1
  have key : eb_W (f_X12_readPart m) (fun z => eb_W (F z.1 z.2) Q) := by
    unfold f_X12_readPart
    refine et_mLet hL h.1 fun r m1 k1 k2 => ?_
    obtain ⟨_, h12, h10, h11, hT⟩ := id k2
    obtain ⟨s1, s2, _, _⟩ := et_sb_spec (c := c) hL hp
    rw [eb_bdR, h10, eb_bdR, h12]
    by_cases hk : et_kd c L (et_sb c L p) = 1
    · rw [if_pos hk] at h10 ⊢
      obtain ⟨w1, w2, _, _⟩ := et_en_w (c := c) (b := et_sb c L p) hL (Or.inl hk)
      have w1 : et_sb c L p < et_te c L p := w1
      have w2 : et_te c L p ≤ L := w2
      have L1 : et_LM c L m0 m1 (et_te c L p) n s v d := et_LM_F h k1 (et_M_at hL w2 h10 h11 hT)
      rw [if_neg (by rw [nI_eq (by omega) (by omega)]; omega)]
      have hno : et_num c L p 0 999 = none := if_neg fun z => by have := z.1; omega
      have fin : ∀ f, f < 6 → et_pt c L p = some (nI f, 0) → eb_W (f_X12_readPart_j113 (nI f) m1) (fun z => eb_W (F z.1 z.2) Q) := fun f hf hpt => by
        obtain ⟨m2, e1, e2, _⟩ := et_emits (x := nI f) (y := 0) (by omega) L1
        unfold f_X12_readPart_j113 f_X12_readPart_j120
        rw [e1, eb_clR, if_neg (nI_pos (by omega))]
        exact eb_some (h1 _ hpt m2 e2)
      have w26 := et_isWordE (j := 46) (j' := 26) hL (by decide) (by decide +kernel) rfl k2
      have w27 := et_isWordE (j := 68) (j' := 27) hL (by decide) (by decide +kernel) rfl k2
      have w28 := et_isWordE (j := 69) (j' := 28) hL (by decide) (by decide +kernel) rfl k2
      have w29 := et_isWordE (j := 48) (j' := 29) hL (by decide) (by decide +kernel) rfl k2
      have w30 := et_isWordE (j := 61) (j' := 30) hL (by decide) (by decide +kernel) rfl k2
      have w31 := et_isWordE (j := 70) (j' := 31) hL (by decide) (by decide +kernel) rfl k2
      unfold et_pt at fin h0
      rw [w26, eb_clR]
      cases h26 : et_w c L p 26 with
      | true =>
        rw [show eb_b2 true = 1 from rfl, if_neg (by decide)]
        exact fin 0 (by decide) (by rw [h26, if_pos rfl])
      | false =>
      rw [show eb_b2 false = 0 from rfl, if_pos rfl, w27, eb_clR]
      rw [h26, if_neg (by decide)] at fin h0
      cases h27 : et_w c L p 27 with
      | true =>
        rw [show eb_b2 true = 1 from rfl, if_neg (by decide)]
        exact fin 1 (by decide) (by rw [h27, if_pos rfl])
      | false =>
      rw [show eb_b2 false = 0 from rfl, if_pos rfl, w28, eb_clR]
      rw [h27, if_neg (by decide)] at fin h0
      cases h28 : et_w c L p 28 with
      | true =>
        rw [show eb_b2 true = 1 from rfl, if_neg (by decide)]
        exact fin 2 (by decide) (by rw [h28, if_pos rfl])
      | false =>
      rw [show eb_b2 false = 0 from rfl, if_pos rfl, w29, eb_clR]
      rw [h28, if_neg (by decide)] at fin h0
      cases h29 : et_w c L p 29 with
      | true =>
        rw [show eb_b2 true = 1 from rfl, if_neg (by decide)]
        exact fin 3 (by decide) (by rw [h29, if_pos rfl])
      | false =>
      rw [show eb_b2 false = 0 from rfl, if_pos rfl, w30, eb_clR]
      rw [h29, if_neg (by decide)] at fin h0
      cases h30 : et_w c L p 30 with
      | true =>
        rw [show eb_b2 true = 1 from rfl, if_neg (by decide)]
        exact fin 4 (by decide) (by rw [h30, if_pos rfl])
      | false =>
      rw [show eb_b2 false = 0 from rfl, if_pos rfl, w31, eb_clR]
      rw [h30, if_neg (by decide)] at fin h0
      cases h31 : et_w c L p 31 with
      | true =>
        rw [show eb_b2 true = 1 from rfl, if_neg (by decide)]
        exact fin 5 (by decide) (by rw [h31, if_pos rfl])
      | false =>
      rw [show eb_b2 false = 0 from rfl, if_pos rfl]
      rw [h31, if_neg (by decide), hno] at h0
      obtain ⟨m2, e1, e2, e3⟩ := et_emits (x := -1) (y := 0) (by omega) L1
      unfold f_X12_readPart_j113 f_X12_readPart_j120
      rw [e1, eb_clR, if_pos (by decide)]
      exact eb_some (h0 rfl m2 e2.2.2.2.2 (e3.trans h12))
    · rw [if_neg hk] at h10 ⊢
      rw [if_pos rfl]
      have L1 : et_LM c L m0 m1 p n s v d := et_LM_F h k1 (et_M_sb hL hp h10 h11 hT)
      have hw : ∀ j, et_w c L p j = false := fun j => decide_eq_false fun z => hk z.1
      have hpt : et_pt c L p = (et_num c L p 0 999).map fun x => (nI 8, nI x) := et_fs_none (by unfold et_fs; rw [hw, hw, hw, hw, hw, hw]; rfl)
      refine et_mNum hL L1.1 (fun hnn m5 g1 g2 => ?_) (fun x hnx m5 g1 g2 g3 => ?_)
      · have L5 := et_DF_F L1.2.2.2.2 g1
        have L16 : m5 272 16 = nI n := by rw [g1 272 16 (by omega)]; exact L1.2.1
        unfold f_X12_emits f_X12_readPart_j120
        rw [eb_bdR, L16, eb_bdR, show (1380 : Int32) + 2 * nI n = nI (1380 + 2 * n) by show nI 1380 + nI 2 * nI n = _; rw [pk_mul, nI_add], eb_gN (by omega) (by decide), nI_clamp (by omega), eb_bdR, eb_bdR, eb_stA _ _ _ (by decide), L16, eb_bdR, show (1380 : Int32) + 2 * nI n = nI (1380 + 2 * n) by show nI 1380 + nI 2 * nI n = _; rw [pk_mul, nI_add], nI_1, eb_gN (by omega) (by decide), nI_clamp (by omega), eb_bdR, eb_bdR, eb_bdR, eb_clR, if_pos (by decide)]
        refine eb_some (h0 (by rw [hpt, hnn]; rfl) _ (fun b i q1 q2 => ?_) ?_)
        · dsimp only
          rw [eb_sts, if_neg (by omega), eb_sts, if_neg (by omega), eb_sts, if_neg (by omega)]; exact L5 b i q1 q2
        · dsimp only
          rw [eb_stI _ _ _ (by decide), eb_stA _ _ _ (by decide), eb_stA _ _ _ (by decide)]; exact g2
      · obtain ⟨x1, _, _, _⟩ := et_num_some hL hp hnx
        obtain ⟨m2, e1, e2, _⟩ := et_emits (x := 8) (y := nI x) (by omega) (et_LM_F L1 g1 g2)
        unfold f_X12_readPart_j120
        rw [e1, eb_clR, if_neg (nI_pos (by omega))]
        exact eb_some (h1 (nI 8, nI x) (by rw [hpt, hnx]; rfl) m2 e2)
  exact eb_bind key fun z hz => hz
end SUMS
