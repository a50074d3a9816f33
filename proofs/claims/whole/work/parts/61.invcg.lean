section INVCG
variable {w w' : Nat → Int32} {m m' : ea_M} {l : Nat → Nat → Int32}
def eb_lv (w : Nat → Int32) : Prop := eb_ln w ≤ 12 ∧ ∀ k, k < eb_ln w → eb_bg w k ≤ eb_sp w k ∧ eb_sp w k ≤ 400
theorem eb_lv_of (h : eb_LR l w) : eb_lv w := by
  rcases h with ⟨a, _⟩ | ⟨a, n, len, hn, hlen, a0, a1, a2, a3, a4⟩
  · have e : eb_ln w = 0 := by unfold eb_ln; rw [a]; rfl
    exact ⟨by omega, fun k hk => by omega⟩
  · have e : eb_ln w = n := by unfold eb_ln; rw [if_pos a, a1]; exact nI_clamp (by omega)
    refine ⟨by omega, fun k hk => ?_⟩
    obtain ⟨b1, b2, b3, b, s, c1, c2, c3, c4, c5, c6, c7⟩ := a4 k (by omega)
    have e1 : eb_bg w k = b := by unfold eb_bg; rw [c4]; exact nI_clamp (by omega)
    have e2 : eb_sp w k = s := by unfold eb_sp; rw [c6]; exact nI_clamp (by omega)
    omega
def eb_rel (j : Nat) : Prop := j = 4 ∨ (6 ≤ j ∧ j ≤ 10) ∨ (13 ≤ j ∧ j < 50) ∨ (482 ≤ j ∧ j < 1331)
theorem eb_ev_cg (hw : ∀ j, eb_rel j → w' j = w j) (F : Nat → Int32) (n : Nat) : ∀ (i : Nat) (S : List Int32), i + n ≤ 400 → eb_ev w' F n i S = eb_ev w F n i S := by
  induction n with
  | zero => intro i S h; rfl
  | succ n ih =>
    intro i S h
    unfold eb_ev
    rw [hw (531 + 2 * i) (by unfold eb_rel; omega), hw (532 + 2 * i) (by unfold eb_rel; omega)]
    exact ih (i + 1) _ (by omega)
theorem eb_ln_cg (hw : ∀ j, eb_rel j → w' j = w j) : eb_ln w' = eb_ln w := by
  unfold eb_ln
  rw [hw 4 (by unfold eb_rel; omega), hw 482 (by unfold eb_rel; omega)]
theorem eb_sum_cg (hw : ∀ j, eb_rel j → w' j = w j) (hl : eb_lv w) (F : Nat → Int32) (kd : Int32) : eb_sum w' F kd = eb_sum w F kd := by
  unfold eb_sum
  rw [eb_ln_cg hw]
  refine eb_F_cg fun k t hk => ?_
  have h12 := hl.1
  have hk2 := hl.2 k hk
  have e1 : w' (483 + 4 * k) = w (483 + 4 * k) := hw _ (by unfold eb_rel; omega)
  have e2 : w' (484 + 4 * k) = w (484 + 4 * k) := hw _ (by unfold eb_rel; omega)
  have e3 : eb_bg w' k = eb_bg w k := by unfold eb_bg; rw [hw _ (by unfold eb_rel; omega)]
  have e4 : eb_sp w' k = eb_sp w k := by unfold eb_sp; rw [hw _ (by unfold eb_rel; omega)]
  have e5 : eb_hd w' F k ↔ eb_hd w F k := by
    unfold eb_hd
    rw [e3, e4, eb_ev_cg hw F _ _ _ (by omega)]
  by_cases h : w (483 + 4 * k) = kd ∧ eb_hd w F k
  · have h' : w' (483 + 4 * k) = kd ∧ eb_hd w' F k := ⟨e1.trans h.1, e5.mpr h.2⟩
    rw [if_pos h, if_pos h', e2]
  · have h' : ¬ (w' (483 + 4 * k) = kd ∧ eb_hd w' F k) := fun z => h ⟨e1.symm.trans z.1, e5.mp z.2⟩
    rw [if_neg h, if_neg h']
theorem eb_fact_cg (hw : ∀ j, eb_rel j → w' j = w j) {b : Nat} (hb : b < 6) (lv co br : Int32) : eb_fact w' (nI b) lv co br = eb_fact w (nI b) lv co br := by
  funext f
  unfold eb_fact
  rw [nI_clamp (by omega), hw (27 + 4 * b) (by unfold eb_rel; omega), hw 6 (by unfold eb_rel; omega), hw 8 (by unfold eb_rel; omega), hw 9 (by unfold eb_rel; omega), hw 10 (by unfold eb_rel; omega)]
theorem eb_sk_cg (hw : ∀ j, eb_rel j → w' j = w j) (hl : eb_lv w) {b : Nat} (hb : b < 6) (lv co br : Int32) : eb_sk w' (nI b) lv co br = eb_sk w (nI b) lv co br := by
  unfold eb_sk
  rw [eb_fact_cg hw hb, eb_sum_cg hw hl, eb_sum_cg hw hl, nI_clamp (by omega), hw (26 + 4 * b) (by unfold eb_rel; omega)]
theorem eb_cr_cg (hw : ∀ j, eb_rel j → w' j = w j) (hl : eb_lv w) {b v : Nat} (hb : b < 6) (hv : v < 13) (co br : Int32) : eb_cr w' (nI b) (nI v) co br = eb_cr w (nI b) (nI v) co br := by
  unfold eb_cr
  rw [eb_fact_cg hw hb, eb_sum_cg hw hl, eb_sum_cg hw hl, nI_clamp (show b < 2 ^ 31 by omega), nI_clamp (show v < 2 ^ 31 by omega), hw (27 + 4 * b) (by unfold eb_rel; omega), hw (13 + v) (by unfold eb_rel; omega)]
theorem eb_dr_cg (hw : ∀ j, eb_rel j → w' j = w j) {b : Nat} (hb : b < 6) (g : Int32) : eb_dr w' (nI b) g = eb_dr w (nI b) g := by
  unfold eb_dr
  rw [nI_clamp (by omega), hw (27 + 4 * b) (by unfold eb_rel; omega)]
theorem eb_way_cg (hw : ∀ j, eb_rel j → w' j = w j) (hl : eb_lv w) {b : Nat} (hb : b < 6) (k : Nat) : eb_way w' (nI b) k = eb_way w (nI b) k := by
  induction k with
  | zero =>
    unfold eb_way
    rw [hw 8 (by unfold eb_rel; omega), hw 7 (by unfold eb_rel; omega)]
  | succ k ih =>
    unfold eb_way
    rw [ih]
    refine eb_F_cg fun i t hi => ?_
    have g : ∀ n g d, eb_gu w' (nI b) k (16 + i) n g d = eb_gu w (nI b) k (16 + i) n g d := fun n g d => by
      unfold eb_gu
      rw [eb_sk_cg hw hl hb, eb_cr_cg hw hl hb (by omega), eb_dr_cg hw hb]
    unfold eb_spr
    rw [g, g, g]
theorem eb_FT_cg (hw : ∀ j, eb_rel j → w' j = w j) (hl : eb_lv w) {b : Nat} (hb : b < 6) {f f' : Nat → Nat → Int32} (hf : ∀ i j, i < 3 → f' i j = f i j) (h : eb_FT w b f) : eb_FT w' b f' := by
  have e : eb_lan w' (nI b) = eb_lan w (nI b) := funext fun j => by unfold eb_lan; rw [eb_way_cg hw hl hb]
  obtain ⟨h1, h2, h3, h4⟩ := h
  refine ⟨?_, ?_, fun j hj => ?_, fun k hk => ?_⟩
  · rw [hf 0 0 (by decide), h1]
    unfold eb_off
    rw [eb_way_cg hw hl hb]
  · rw [hf 0 1 (by decide), h2]
    unfold eb_alo
    rw [eb_way_cg hw hl hb]
  · rw [hf 1 j (by decide), h3 j hj, e]
  · rw [hf 2 _ (by decide), h4 k hk, e]
    unfold eb_gd
    rw [hw 9 (by unfold eb_rel; omega), hw 10 (by unfold eb_rel; omega)]
/-- what eb_J speaks of -/
def eb_NJ (a i : Nat) : Prop := (a = 0 ∧ i ≠ 18) ∨ (1 ≤ a ∧ a ≤ 15) ∨ (a = 16 ∧ i ≤ 1) ∨ (17 ≤ a ∧ a ≤ 21) ∨ (50 ≤ a ∧ a ≤ 71) ∨ (86 ≤ a ∧ a ≤ 253) ∨ (a = 272 ∧ (i = 6 ∨ i = 7 ∨ i = 9 ∨ i = 14)) ∨ (a = 273 ∧ i < 1331) ∨ a = 274 ∨ a = 277 ∨ a = 278
def eb_EJ (m m' : ea_M) : Prop := ∀ a i, eb_NJ a i → m' a i = m a i
def eb_E (m m' : ea_M) : Prop := eb_EJ m m' ∧ m' 0 18 = m 0 18 ∧ ∀ a i, 254 ≤ a → a ≤ 271 → m' a i = m a i
theorem eb_len14 : ∀ i, 14 ≤ i → eb_len i = 0 := fun i h => by
  obtain ⟨k, rfl⟩ : ∃ k, i = k + 14 := ⟨i - 14, by omega⟩
  rfl
theorem eb_lenI {i j : Nat} (h : j < eb_len i) : i < 14 := by
  by_cases q : i < 14
  · exact q
  · rw [eb_len14 i (by omega)] at h
    omega
theorem eb_J_cg (hE : eb_EJ m m') (h : eb_J m) : eb_J m' := by
  obtain ⟨h1, h2, ⟨q, x, p1, p2, p3, p4, p5, p6⟩, ⟨i1, i2⟩, ⟨L, t1, t2, t3, t4⟩, h6⟩ := h
  refine ⟨eb_C_cg (fun i j hj => ?_) (fun j hj => hE 273 j (by unfold eb_NJ; omega)) h1, eb_LR_cg (l := eb_ct m 16) (l' := eb_ct m' 16) (hE 16 0 (by unfold eb_NJ; omega)) (hE 16 1 (by unfold eb_NJ; omega)) (fun i j _ _ _ => hE (16 + i) j (by unfold eb_NJ; omega)) (fun j _ _ => hE 21 j (by unfold eb_NJ; omega)) (hE 273 4 (by unfold eb_NJ; omega)) (fun j _ hj => hE 273 j (by unfold eb_NJ; omega)) h2, ⟨q, x, p1, p2, ?_, ?_, ?_, fun j hj => ⟨eb_C_cg (fun i jj hjj => ?_) (fun i _ => hE 277 _ (by unfold eb_NJ; omega)) (p6 j hj).1, ?_⟩⟩, ⟨?_, ?_⟩, ⟨L, t1, ?_, ?_, fun j hj => ?_⟩, ?_⟩
  · have := eb_lenI hj
    exact hE (2 + i) j (by unfold eb_NJ; omega)
  · rw [hE 0 13 (by unfold eb_NJ; omega)]; exact p3
  · rw [hE 272 7 (by unfold eb_NJ; omega)]; exact p4
  · rw [hE 0 14 (by unfold eb_NJ; omega)]; exact p5
  · have := eb_lenI hjj
    exact hE (86 + 14 * ((x + 12 - q + j) % 12) + i) jj (by unfold eb_NJ; omega)
  · rw [hE 273 4 (by unfold eb_NJ; omega)]
    exact (hE 277 _ (by unfold eb_NJ; omega)).trans (p6 j hj).2
  · rw [hE 0 9 (by unfold eb_NJ; omega), hE 272 6 (by unfold eb_NJ; omega)]; exact i1
  · rw [hE 0 9 (by unfold eb_NJ; omega)]
    rcases i2 with z | ⟨z, z1, z2⟩
    · exact Or.inl z
    · refine Or.inr ⟨z, eb_C_cg (fun i j hj => ?_) (fun j _ => hE 274 j (by unfold eb_NJ; omega)) z1, eb_LR_cg (l := eb_ct m 64) (l' := eb_ct m' 64) (hE 64 0 (by unfold eb_NJ; omega)) (hE 64 1 (by unfold eb_NJ; omega)) (fun i j _ _ _ => hE (64 + i) j (by unfold eb_NJ; omega)) (fun j _ _ => hE 69 j (by unfold eb_NJ; omega)) (hE 274 4 (by unfold eb_NJ; omega)) (fun j _ hj => hE 274 j (by unfold eb_NJ; omega)) z2⟩
      have := eb_lenI hj
      exact hE (50 + i) j (by unfold eb_NJ; omega)
  · rw [hE 0 1 (by unfold eb_NJ; omega)]; exact t2
  · rw [hE 272 9 (by unfold eb_NJ; omega)]; exact t3
  · rw [hE 1 j (by unfold eb_NJ; omega), hE 278 j (by unfold eb_NJ; omega)]; exact t4 j hj
  · rw [hE 0 2 (by unfold eb_NJ; omega), hE 272 14 (by unfold eb_NJ; omega)]; exact h6
theorem eb_I_cg (hE : eb_E m m') (h : eb_I m) : eb_I m' := by
  obtain ⟨h1, h2⟩ := h
  refine ⟨eb_J_cg hE.1 h1, ?_⟩
  unfold eb_fa at h2 ⊢
  rw [hE.2.1, eb_b_cg (hE.1 273 0 (by unfold eb_NJ; omega))]
  rcases h2 with z | ⟨z, z2⟩
  · exact Or.inl z
  · refine Or.inr ⟨z, fun b hb => ?_⟩
    have h6 : eb_b (m 273) ≤ 6 := h1.1.2.1.1.2
    exact eb_FT_cg (fun j hj => hE.1 273 j (by unfold eb_NJ eb_rel at *; omega)) (eb_lv_of h1.2.1) (by omega) (fun i j hi => hE.2.2 (254 + 3 * b + i) j (by omega) (by omega)) (z2 b hb)
theorem eb_E_refl (m : ea_M) : eb_E m m := ⟨fun _ _ _ => rfl, rfl, fun _ _ _ _ => rfl⟩
theorem eb_E_trans {m1 m2 m3 : ea_M} (h1 : eb_E m1 m2) (h2 : eb_E m2 m3) : eb_E m1 m3 := ⟨fun a i h => (h2.1 a i h).trans (h1.1 a i h), h2.2.1.trans h1.2.1, fun a i q1 q2 => (h2.2.2 a i q1 q2).trans (h1.2.2 a i q1 q2)⟩
/-- places that eb_I does not speak of -/
def eb_Sc (a i : Nat) : Prop := (a = 16 ∧ 2 ≤ i) ∨ (22 ≤ a ∧ a ≤ 49) ∨ (72 ≤ a ∧ a ≤ 85) ∨ (a = 272 ∧ i ≠ 6 ∧ i ≠ 7 ∧ i ≠ 9 ∧ i ≠ 14) ∨ (a = 273 ∧ 1331 ≤ i) ∨ a = 275 ∨ a = 276 ∨ 279 ≤ a
theorem eb_E_st {m1 m2 : ea_M} (h : eb_E m1 m2) {a i : Nat} (hs : eb_Sc a i) (v : Int32) : eb_E m1 (ea_st m2 a i v) := by
  unfold eb_Sc at hs
  refine ⟨fun b j hb => ?_, ?_, fun b j q1 q2 => ?_⟩
  · rw [eb_sts, if_neg (by unfold eb_NJ at hb; omega)]
    exact h.1 b j hb
  · rw [eb_sts, if_neg (by omega)]
    exact h.2.1
  · rw [eb_sts, if_neg (by omega)]
    exact h.2.2 b j q1 q2
theorem eb_E_fr {A : Nat → Prop} (h : eb_fr A m m') (hA : ∀ a i, A a → eb_Sc a i) : eb_E m m' := by
  have k : ∀ a i, ¬ eb_Sc a i → m' a i = m a i := fun a i hn => congrFun (h a fun z => hn (hA a i z)) i
  refine ⟨fun b j hb => k b j (by unfold eb_NJ at hb; unfold eb_Sc; omega), k 0 18 (by unfold eb_Sc; omega), fun b j q1 q2 => k b j (by unfold eb_Sc; omega)⟩
end INVCG
