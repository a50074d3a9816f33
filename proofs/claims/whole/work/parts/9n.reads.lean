section READS
variable {c : Nat → Nat} {L p q a j n : Nat} {m : ea_M} {τ : Type} {Q : τ → Prop} {F : Int32 → ea_M → Option τ} {lo hi : Int32}
/-- the reader stands at the thing behind p, and has found nothing wrong -/
def et_S (c : Nat → Nat) (L a : Nat) (m : ea_M) (p : Nat) : Prop := et_R c L a m p ∧ m a 6 = -1 ∧ et_T1 c m
/-- all but row a is as it was -/
def et_fa (a : Nat) (m m' : ea_M) : Prop := eb_fr (fun x => x = a) m m'
theorem et_fa_refl (a : Nat) (m : ea_M) : et_fa a m m := eb_fr_refl _ _
theorem et_fa_trans {m1 m2 m3 : ea_M} (h1 : et_fa a m1 m2) (h2 : et_fa a m2 m3) : et_fa a m1 m3 := eb_fr_trans h1 h2
theorem et_fa_st {m1 m2 : ea_M} (h1 : et_fa a m1 m2) (i : Nat) (v : Int32) : et_fa a m1 (ea_st m2 a i v) := eb_fr_st h1 rfl i v
theorem et_cStep (hL : L ≤ 400) (ha : a ≠ 1) (h : et_S c L a m p) (hF : ∀ r m1, et_fa a m m1 → et_S c L a m1 (et_te c L p) → m1 a 5 = m a 5 → eb_W (F r m1) Q) : eb_W (ea_cl (f_X9_step a m) F) Q := by
  obtain ⟨⟨r0, r1, r2, r3, r4⟩, h6, hT⟩ := h
  refine eb_cl (et_step hL ha hT r1 r4 (et_te_le hL r0).2.1) fun r m1 hz => ?_
  obtain ⟨hR, hfr⟩ := hz
  refine hF r m1 (fun b hb => funext fun i => hfr b i (fun q => hb q.1)) ⟨hR, ?_, fun j hj => ?_⟩ ?_
  · exact (hfr a 6 (by omega)).trans h6
  · rw [show m1 1 j = m 1 j from hfr 1 j (by omega)]; exact hT j hj
  · exact hfr a 5 (by omega)
theorem et_S_st (ha : a ≠ 1) (h : et_S c L a m p) (v : Int32) : et_S c L a (ea_st m a 5 v) p := by
  obtain ⟨⟨r0, r1, r2, r3, r4⟩, h6, hT⟩ := h
  refine ⟨⟨r0, ?_, ?_, ?_, ?_⟩, ?_, fun j hj => ?_⟩
  · rw [eb_stI _ _ _ (by decide)]; exact r1
  · rw [eb_stI _ _ _ (by decide)]; exact r2
  · rw [eb_stI _ _ _ (by decide)]; exact r3
  · rw [eb_stI _ _ _ (by decide)]; exact r4
  · rw [eb_stI _ _ _ (by decide)]; exact h6
  · rw [eb_stA _ _ _ (Ne.symm ha)]; exact hT j hj
/-- rows that the reader does not use -/
theorem et_S_fr {m1 : ea_M} (h : et_S c L a m p) (ha : m1 a = m a) (h1 : m1 1 = m 1) : et_S c L a m1 p := by
  unfold et_S et_R et_T1 at h ⊢
  rw [ha, h1]
  exact h
theorem et_refuse (h : et_S c L a m p) : f_X9_refuse a m = some (0, ea_st m a 6 (nI (et_sb c L p))) := by
  unfold f_X9_refuse
  rw [eb_bdR, eb_bdR, h.1.2.2.2.1]
/-- the thing behind p is the word j -/
def et_w (c : Nat → Nat) (L p j : Nat) : Bool := decide (et_kd c L (et_sb c L p) = 1 ∧ et_te c L p = et_sb c L p + ea_tl j ∧ ∀ i, i < ea_tl j → nI (c (et_sb c L p + i)) = ea_tc j i)
theorem et_w_eq {j' : Nat} (h : (ea_str.getD j ("", 0, "")).2.2 = (ea_str.getD j' ("", 0, "")).2.2) : et_w c L p j = et_w c L p j' := by
  have h1 : ea_tl j = ea_tl j' := by unfold ea_tl; rw [h]
  have h2 : ∀ i, ea_tc j i = ea_tc j' i := fun i => by unfold ea_tc; rw [h]
  unfold et_w
  rw [h1]
  simp only [h2]
theorem et_sees (hL : L ≤ 400) (hj : j < ea_str.length) (h : et_S c L a m p) : f_X9_sees a j m = some (eb_b2 (et_w c L p j), m) := by
  obtain ⟨⟨r0, r1, r2, r3, r4⟩, h6, hT⟩ := h
  obtain ⟨s1, s2, _, _⟩ := et_sb_spec (c := c) hL r0
  obtain ⟨e1, e2, _⟩ := et_en_le (c := c) (b := et_sb c L p) hL s2
  have e1 : et_sb c L p ≤ et_te c L p := e1
  have e2 : et_te c L p ≤ L := e2
  have hl := ea_tl_lt hj
  have hk := et_kd_le (c := c) (L := L) (b := et_sb c L p)
  unfold f_X9_sees
  rw [eb_bdR, r2]
  by_cases hk1 : et_kd c L (et_sb c L p) = 1
  · rw [if_pos (show nI (et_kd c L (et_sb c L p)) = 1 by rw [hk1]; rfl), eb_bdR, r4, eb_bdR, r3, show ea_slen j m = some (nI (ea_tl j), m) from rfl, eb_clR, pk_sub e1]
    by_cases hlen : et_te c L p = et_sb c L p + ea_tl j
    · rw [if_pos (by rw [hlen, Nat.add_sub_cancel_left])]
      have key : eb_W (ea_loop (f_X9_sees_s28 a j) ea_fuel (0, m)) (fun r => (r = .inl (0, m) ∧ et_w c L p j = false) ∨ (r = .inr m ∧ et_w c L p j = true)) := by
        refine eb_for (ea_tl j) (fun i s => s = (nI i, m) ∧ ∀ k, k < i → nI (c (et_sb c L p + k)) = ea_tc j k) (fun i s hi hI => ?_) (fun s hI => ?_) (by unfold ea_fuel; omega) ⟨rfl, fun k hk => by omega⟩
        · obtain ⟨rfl, hI⟩ := hI
          unfold f_X9_sees_s28
          rw [show ea_slen j ((nI i, m) : Int32 × ea_M).2 = some (nI (ea_tl j), m) from rfl, eb_clR, if_neg (show ¬ nI (ea_tl j) ≤ nI i from nI_ge hi (by omega)), eb_bdR, r3, show nI (et_sb c L p) + ((nI i, m) : Int32 × ea_M).1 = nI (et_sb c L p + i) from nI_add _ _, eb_gN (by omega) (by decide), eb_bdR, nI_clamp (by omega), (hT _ (by omega)).2, show ea_schr j ((nI i, m) : Int32 × ea_M).1 m = ea_g (nI i) (ea_tl j) (some (ea_tc j (nI i).toNatClampNeg, m)) from rfl, eb_gN hi (by omega), eb_clR, nI_clamp (by omega)]
          by_cases hc : nI (c (et_sb c L p + i)) = ea_tc j i
          · rw [if_pos hc]
            refine eb_some ⟨?_, fun k hk => ?_⟩
            · show (nI i + 1, m) = _
              rw [nI_1]
            · by_cases hki : k = i
              · rw [hki]; exact hc
              · exact hI k (by omega)
          · rw [if_neg hc]
            exact eb_some (Or.inl ⟨rfl, decide_eq_false fun z => hc (z.2.2 i hi)⟩)
        · obtain ⟨rfl, hI⟩ := hI
          unfold f_X9_sees_s28
          rw [show ea_slen j ((nI (ea_tl j), m) : Int32 × ea_M).2 = some (nI (ea_tl j), m) from rfl, eb_clR, if_pos (show nI (ea_tl j) ≤ nI (ea_tl j) from nI_le (Nat.le_refl _) (by omega))]
          exact eb_some (Or.inr ⟨rfl, decide_eq_true ⟨hk1, hlen, hI⟩⟩)
      obtain ⟨r, er, hr⟩ := key
      rw [show ((0 : Int32), m) = (0, m) from rfl, er]
      rcases hr with ⟨rfl, hw⟩ | ⟨rfl, hw⟩
      · rw [hw]; rfl
      · rw [hw]; rfl
    · rw [if_neg (by rw [nI_eq (by omega) (by omega)]; omega), show et_w c L p j = false from decide_eq_false fun z => hlen z.2.1]
      rfl
  · rw [if_neg (show ¬ nI (et_kd c L (et_sb c L p)) = 1 from (show ¬ nI (et_kd c L (et_sb c L p)) = nI 1 by rw [nI_eq (by omega) (by decide)]; exact hk1)), show et_w c L p j = false from decide_eq_false fun z => hk1 z.1]
    rfl
theorem et_cTakes (hL : L ≤ 400) (ha : a ≠ 1) (hj : j < ea_str.length) (h : et_S c L a m p)
    (h0 : et_w c L p j = false → ∀ m1, et_fa a m m1 → m1 a 6 = nI (et_sb c L p) → eb_W (F 0 m1) Q)
    (h1 : et_w c L p j = true → ∀ m1, et_fa a m m1 → et_S c L a m1 (et_te c L p) → eb_W (F 1 m1) Q) : eb_W (ea_cl (f_X9_takes a j m) F) Q := by
  unfold f_X9_takes
  rw [et_sees hL hj h, eb_clR]
  cases hw : et_w c L p j with
  | false =>
    rw [show eb_b2 false = 0 from rfl, if_pos rfl, et_refuse h, eb_clR, eb_gz0, eb_clR]
    exact h0 hw _ (et_fa_st (et_fa_refl _ _) _ _) (eb_st _ _ _ _)
  | true =>
    rw [show eb_b2 true = 1 from rfl, if_neg (by decide)]
    refine eb_bind (P := fun z => z.1 = 1 ∧ et_fa a m z.2 ∧ et_S c L a z.2 (et_te c L p)) (et_cStep hL ha h fun r m1 k1 k2 _ => eb_some ⟨rfl, k1, k2⟩) fun z hz => ?_
    rw [hz.1]
    exact h1 hw z.2 hz.2.1 hz.2.2
/-- the number of n figures from b on -/
def et_vn (c : Nat → Nat) (b : Nat) : Nat → Nat
  | 0 => 0
  | n + 1 => 10 * et_vn c b n + c (b + n) - 48
theorem et_vn_le {b : Nat} : ∀ n, (∀ i, i < n → 48 ≤ c (b + i) ∧ c (b + i) ≤ 57) → et_vn c b n < 10 ^ n
  | 0, _ => Nat.one_pos
  | n + 1, h => by
    have h1 := et_vn_le n (fun i hi => h i (by omega))
    have h2 := h n (by omega)
    show 10 * et_vn c b n + c (b + n) - 48 < 10 ^ (n + 1)
    rw [Nat.pow_succ]
    omega
/-- the thing behind p is a number, of at most three figures, of lo to hi -/
def et_num (c : Nat → Nat) (L p : Nat) (lo hi : Int32) : Option Nat :=
  if et_kd c L (et_sb c L p) = 2 ∧ et_te c L p ≤ et_sb c L p + 3 ∧ ¬ nI (et_vn c (et_sb c L p) (et_te c L p - et_sb c L p)) < lo ∧ nI (et_vn c (et_sb c L p) (et_te c L p - et_sb c L p)) ≤ hi then some (et_vn c (et_sb c L p) (et_te c L p - et_sb c L p)) else none
theorem et_num_some {v : Nat} (hL : L ≤ 400) (hp : p ≤ L) (h : et_num c L p lo hi = some v) : v ≤ 999 ∧ ¬ nI v < lo ∧ nI v ≤ hi ∧ p < et_te c L p := by
  unfold et_num at h
  split at h
  · rename_i q
    have e := Option.some.inj h
    rw [← e]
    obtain ⟨q1, q2, q3, q4⟩ := q
    obtain ⟨w1, w2, w3, w4⟩ := et_en_w (c := c) (b := et_sb c L p) hL (Or.inr q1)
    have w1 : et_sb c L p < et_te c L p := w1
    have hv := et_vn_le (c := c) (b := et_sb c L p) (et_te c L p - et_sb c L p) (fun i hi => by
      have := w3 (et_sb c L p + i) (by omega) (show _ < et_te c L p by omega)
      rw [q1] at this
      exact (et_kd2.mp this).2)
    have hp3 : 10 ^ (et_te c L p - et_sb c L p) ≤ 10 ^ 3 := Nat.pow_le_pow_right (by decide) (by omega)
    exact ⟨by omega, q3, q4, (et_te_le hL hp).2.2 (by omega)⟩
  · cases h
theorem et_cNum (hL : L ≤ 400) (ha : a ≠ 1) (h : et_S c L a m p)
    (h0 : et_num c L p lo hi = none → ∀ m1, et_fa a m m1 → m1 a 6 = nI (et_sb c L p) → eb_W (F 0 m1) Q)
    (h1 : ∀ v, et_num c L p lo hi = some v → ∀ m1, et_fa a m m1 → et_S c L a m1 (et_te c L p) → m1 a 5 = nI v → eb_W (F 1 m1) Q) : eb_W (ea_cl (f_X9_takesNumber a lo hi m) F) Q := by
  obtain ⟨⟨r0, r1, r2, r3, r4⟩, h6, hT⟩ := id h
  obtain ⟨s1, s2, _, _⟩ := et_sb_spec (c := c) hL r0
  obtain ⟨e1, e2, _⟩ := et_en_le (c := c) (b := et_sb c L p) hL s2
  have e1 : et_sb c L p ≤ et_te c L p := e1
  have e2 : et_te c L p ≤ L := e2
  have hk := et_kd_le (c := c) (L := L) (b := et_sb c L p)
  have hno : et_num c L p lo hi = none → eb_W (ea_cl (f_X9_takesNumber_j21 a m) F) Q := fun hn => by
    unfold f_X9_takesNumber_j21
    rw [et_refuse h, eb_clR, eb_gz0, eb_clR]
    exact h0 hn _ (et_fa_st (et_fa_refl _ _) _ _) (eb_st _ _ _ _)
  unfold f_X9_takesNumber
  rw [eb_bdR, r2]
  by_cases hk2 : et_kd c L (et_sb c L p) = 2
  · rw [if_pos (show nI (et_kd c L (et_sb c L p)) = 2 by rw [hk2]; rfl), eb_bdR, r4, eb_bdR, r3, pk_sub e1]
    by_cases h3 : et_te c L p ≤ et_sb c L p + 3
    · rw [if_pos (show nI (et_te c L p - et_sb c L p) ≤ 3 from (show nI (et_te c L p - et_sb c L p) ≤ nI 3 from nI_le (by omega) (by decide))), eb_bdR]
      obtain ⟨w1, w2, w3, w4⟩ := et_en_w (c := c) (b := et_sb c L p) hL (Or.inr hk2)
      have hd : ∀ i, i < et_te c L p - et_sb c L p → 48 ≤ c (et_sb c L p + i) ∧ c (et_sb c L p + i) ≤ 57 := fun i hi => by
        have := w3 (et_sb c L p + i) (by omega) (show _ < et_te c L p by omega)
        rw [hk2] at this
        exact (et_kd2.mp this).2
      have key : ea_loop (f_X9_takesNumber_s34 a lo hi) ea_fuel (0, nI (et_sb c L p), m) = some (nI (et_vn c (et_sb c L p) (et_te c L p - et_sb c L p)), m) := by
        refine eb_loopF (et_te c L p - et_sb c L p) (fun i => (nI (et_vn c (et_sb c L p) i), nI (et_sb c L p + i), m)) _ rfl (fun i hi => ?_) ?_ (by unfold ea_fuel; omega)
        · unfold f_X9_takesNumber_s34
          dsimp only
          have := hd i hi
          rw [eb_bdR, r4, if_neg (nI_ge (by omega) (by omega)), eb_gN (by omega) (by decide), eb_bdR, eb_bdR, eb_bdR, nI_clamp (by omega), (hT _ (by omega)).2, nI_1]
          rw [show (10 : Int32) * nI (et_vn c (et_sb c L p) i) = nI (10 * et_vn c (et_sb c L p) i) from pk_mul 10 _, nI_add, show nI (10 * et_vn c (et_sb c L p) i + c (et_sb c L p + i)) - 48 = nI (10 * et_vn c (et_sb c L p) i + c (et_sb c L p + i) - 48) from pk_sub (b := 48) (by omega)]
          rfl
        · unfold f_X9_takesNumber_s34
          dsimp only
          rw [eb_bdR, r4, if_pos (nI_le (by omega) (by omega))]
      rw [key, eb_obR]
      dsimp only
      have hj75 : et_num c L p lo hi = none → eb_W (ea_cl (f_X9_takesNumber_j75 a m) F) Q := hno
      by_cases hlo : nI (et_vn c (et_sb c L p) (et_te c L p - et_sb c L p)) < lo
      · rw [if_pos hlo]
        exact hj75 (if_neg fun z => z.2.2.1 hlo)
      · rw [if_neg hlo]
        by_cases hhi : nI (et_vn c (et_sb c L p) (et_te c L p - et_sb c L p)) ≤ hi
        · rw [if_pos hhi, eb_bdR]
          refine eb_bind (P := fun z => z.1 = 1 ∧ et_fa a m z.2 ∧ et_S c L a z.2 (et_te c L p) ∧ z.2 a 5 = nI (et_vn c (et_sb c L p) (et_te c L p - et_sb c L p))) (et_cStep hL ha (et_S_st ha h _) fun r m1 k1 k2 k3 => eb_some ⟨rfl, et_fa_trans (et_fa_st (et_fa_refl _ _) _ _) k1, k2, k3.trans (eb_st _ _ _ _)⟩) fun z hz => ?_
          rw [hz.1]
          exact h1 _ (if_pos ⟨hk2, h3, hlo, hhi⟩) z.2 hz.2.1 hz.2.2.1 hz.2.2.2
        · rw [if_neg hhi]
          exact hj75 (if_neg fun z => hhi z.2.2.2)
    · rw [if_neg (show ¬ nI (et_te c L p - et_sb c L p) ≤ 3 from (show ¬ nI (et_te c L p - et_sb c L p) ≤ nI 3 from nI_ge (by omega) (by omega)))]
      exact hno (if_neg fun z => h3 z.2.1)
  · rw [if_neg (show ¬ nI (et_kd c L (et_sb c L p)) = 2 from (show ¬ nI (et_kd c L (et_sb c L p)) = nI 2 by rw [nI_eq (by omega) (by decide)]; exact hk2))]
    exact hno (if_neg fun z => hk2 z.1)
theorem et_cNamed (hL : L ≤ 400) (ha : a ≠ 1) (hj : j < ea_str.length) (h : et_S c L a m p)
    (h0 : et_w c L p j = false → ∀ m1, et_fa a m m1 → m1 a 6 = nI (et_sb c L p) → eb_W (F 0 m1) Q)
    (h01 : et_w c L p j = true → et_num c L (et_te c L p) lo hi = none → ∀ m1, et_fa a m m1 → m1 a 6 = nI (et_sb c L (et_te c L p)) → eb_W (F 0 m1) Q)
    (h1 : et_w c L p j = true → ∀ v, et_num c L (et_te c L p) lo hi = some v → ∀ m1, et_fa a m m1 → et_S c L a m1 (et_te c L (et_te c L p)) → m1 a 5 = nI v → eb_W (F 1 m1) Q) : eb_W (ea_cl (f_X9_takesNamed a j lo hi m) F) Q := by
  have key : eb_W (f_X9_takesNamed a j lo hi m) (fun z => eb_W (F z.1 z.2) Q) := by
    unfold f_X9_takesNamed
    refine et_cTakes hL ha hj h (fun hw m1 k1 k2 => ?_) (fun hw m1 k1 k2 => ?_)
    · rw [if_pos rfl]
      exact eb_some (h0 hw m1 k1 k2)
    · rw [if_neg (by decide)]
      refine et_cNum hL ha k2 (fun hn m2 g1 g2 => ?_) (fun v hn m2 g1 g2 g3 => ?_)
      · rw [if_pos rfl]
        exact eb_some (h01 hw hn m2 (et_fa_trans k1 g1) g2)
      · rw [if_neg (by decide)]
        exact eb_some (h1 hw v hn m2 (et_fa_trans k1 g1) g2 g3)
  exact eb_bind key fun z hz => hz
/-- the bits of k letters from q on, each of the first n, none twice -/
def et_lb (c : Nat → Nat) (n : Nat) : Nat → Nat → Int32 → Option Int32
  | 0, _, x => some x
  | k + 1, q, x => if c q - 97 < n ∧ (x >>> (nI (c q - 97) &&& 31)) &&& 1 = 0 then et_lb c n k (q + 1) (x ||| (1 <<< (nI (c q - 97) &&& 31))) else none
def et_let (c : Nat → Nat) (L p n : Nat) : Option Int32 := if et_kd c L (et_sb c L p) = 1 then et_lb c n (et_te c L p - et_sb c L p) (et_sb c L p) 0 else none
theorem et_or : ∀ x, x < 64 → ∀ l, l < 6 → nI x ||| (1 <<< (nI l &&& 31)) = nI (x ||| 2 ^ l) ∧ 0 < x ||| 2 ^ l := by decide +kernel
theorem et_lb_rg (hn : n ≤ 6) : ∀ (k q x : Nat) (v : Int32), x < 2 ^ n → et_lb c n k q (nI x) = some v → ∃ y, y < 2 ^ n ∧ v = nI y ∧ (0 < k ∨ 0 < x → 0 < y)
  | 0, q, x, v, hx, h => ⟨x, hx, (Option.some.inj h).symm, by omega⟩
  | k + 1, q, x, v, hx, h => by
    unfold et_lb at h
    split at h
    · rename_i hc
      have h64 : 2 ^ n ≤ 64 := Nat.pow_le_pow_right (n := 2) (by decide) hn
      obtain ⟨e, hpos⟩ := et_or x (by omega) (c q - 97) (by omega)
      rw [e] at h
      obtain ⟨y, y1, y2, y3⟩ := et_lb_rg hn k (q + 1) _ v (Nat.or_lt_two_pow hx (Nat.pow_lt_pow_right (by decide) hc.1)) h
      exact ⟨y, y1, y2, fun _ => y3 (Or.inr hpos)⟩
    · cases h
theorem et_let_rg {v : Int32} (hL : L ≤ 400) (hn : n ≤ 6) (h : et_let c L p n = some v) : ∃ y, 0 < y ∧ y < 2 ^ n ∧ v = nI y := by
  unfold et_let at h
  split at h
  · rename_i hk
    obtain ⟨w1, _⟩ := et_en_w (c := c) (b := et_sb c L p) hL (Or.inl hk)
    have w1 : et_sb c L p < et_te c L p := w1
    obtain ⟨y, y1, y2, y3⟩ := et_lb_rg hn _ _ 0 v (Nat.two_pow_pos n) h
    exact ⟨y, y3 (Or.inl (by omega)), y1, y2⟩
  · cases h
theorem et_let_lt {v : Int32} (hL : L ≤ 400) (hp : p ≤ L) (h : et_let c L p n = some v) : p < et_te c L p := by
  unfold et_let at h
  split at h
  · rename_i hk
    exact (et_te_le hL hp).2.2 (by omega)
  · cases h
theorem et_cLet (hL : L ≤ 400) (ha : a ≠ 1) (hn : n ≤ 6) (h : et_S c L a m p)
    (h0 : et_let c L p n = none → ∀ m1, et_fa a m m1 → m1 a 6 = nI (et_sb c L p) → eb_W (F 0 m1) Q)
    (h1 : ∀ v, et_let c L p n = some v → ∀ m1, et_fa a m m1 → et_S c L a m1 (et_te c L p) → m1 a 5 = v → eb_W (F 1 m1) Q) : eb_W (ea_cl (f_X9_takesLetters a (nI n) m) F) Q := by
  obtain ⟨⟨r0, r1, r2, r3, r4⟩, h6, hT⟩ := id h
  obtain ⟨s1, s2, _, _⟩ := et_sb_spec (c := c) hL r0
  have hk := et_kd_le (c := c) (L := L) (b := et_sb c L p)
  unfold f_X9_takesLetters
  rw [eb_bdR, r2]
  by_cases hk1 : et_kd c L (et_sb c L p) = 1
  · rw [if_pos (show nI (et_kd c L (et_sb c L p)) = 1 by rw [hk1]; rfl), eb_bdR, r3]
    obtain ⟨w1, w2, w3, w4⟩ := et_en_w (c := c) (b := et_sb c L p) hL (Or.inl hk1)
    have w1 : et_sb c L p < et_te c L p := w1
    have w2 : et_te c L p ≤ L := w2
    have hd : ∀ i, et_sb c L p ≤ i → i < et_te c L p → 97 ≤ c i ∧ c i ≤ 122 := fun i hi hi2 => by
      have := w3 i hi hi2
      rw [hk1] at this
      exact (et_kd1.mp this).2
    have key : eb_W (ea_loop (f_X9_takesLetters_s20 a (nI n)) ea_fuel (0, nI (et_sb c L p), m)) (fun r => (∃ m1, r = .inl (0, m1) ∧ et_let c L p n = none ∧ et_fa a m m1 ∧ m1 a 6 = nI (et_sb c L p)) ∨ (∃ v, r = .inr (v, m) ∧ et_let c L p n = some v)) := by
      refine eb_for (et_te c L p - et_sb c L p) (fun i s => ∃ x, s = (x, nI (et_sb c L p + i), m) ∧ et_let c L p n = et_lb c n (et_te c L p - et_sb c L p - i) (et_sb c L p + i) x) (fun i s hi hI => ?_) (fun s hI => ?_) (by unfold ea_fuel; omega) ⟨0, rfl, if_pos hk1⟩
      · obtain ⟨x, rfl, hI⟩ := hI
        unfold f_X9_takesLetters_s20
        dsimp only
        have hc := hd (et_sb c L p + i) (by omega) (by omega)
        rw [eb_bdR, r4, if_neg (nI_ge (by omega) (by omega)), eb_gN (by omega) (by decide), eb_bdR, nI_clamp (by omega), (hT _ (by omega)).2, eb_bdR, show nI (c (et_sb c L p + i)) - 97 = nI (c (et_sb c L p + i) - 97) from pk_sub (b := 97) hc.1]
        rw [show et_te c L p - et_sb c L p - i = (et_te c L p - et_sb c L p - (i + 1)) + 1 by omega] at hI
        unfold et_lb at hI
        have hno : f_X9_takesLetters_j54 a (nI n) m = some (.inr (.inl (0, ea_st m a 6 (nI (et_sb c L p))))) := by
          unfold f_X9_takesLetters_j54
          rw [et_refuse h, eb_clR, eb_gz0]
        have hnk : et_let c L p n = none → (∃ m1, (Sum.inl (0, ea_st m a 6 (nI (et_sb c L p))) : (Int32 × ea_M) ⊕ (Int32 × ea_M)) = .inl (0, m1) ∧ et_let c L p n = none ∧ et_fa a m m1 ∧ m1 a 6 = nI (et_sb c L p)) := fun hn => ⟨_, rfl, hn, et_fa_st (et_fa_refl _ _) _ _, eb_st _ _ _ _⟩
        by_cases hx : c (et_sb c L p + i) - 97 < n
        · rw [if_neg (nI_ge hx (by omega)), eb_bdR]
          by_cases hb : (x >>> (nI (c (et_sb c L p + i) - 97) &&& 31)) &&& 1 = 0
          · rw [if_pos hb, eb_bdR, nI_1]
            rw [if_pos ⟨hx, hb⟩] at hI
            exact eb_some ⟨_, rfl, hI⟩
          · rw [if_neg hb]
            rw [hno]
            exact eb_some (Or.inl (hnk (by rw [hI, if_neg fun z => hb z.2])))
        · rw [if_pos (nI_le (by omega) (by omega))]
          rw [hno]
          exact eb_some (Or.inl (hnk (by rw [hI, if_neg fun z => hx z.1])))
      · obtain ⟨x, rfl, hI⟩ := hI
        unfold f_X9_takesLetters_s20
        dsimp only
        rw [eb_bdR, r4, if_pos (nI_le (by omega) (by omega))]
        rw [Nat.sub_self] at hI
        exact eb_some (Or.inr ⟨x, rfl, hI⟩)
    obtain ⟨r, er, hr⟩ := key
    rw [er]
    rcases hr with ⟨m1, rfl, k1, k2, k3⟩ | ⟨v, rfl, k1⟩
    · exact h0 k1 m1 k2 k3
    · show eb_W (ea_cl (ea_bd (ea_st m a 5 v) fun m11 => ea_cl (f_X9_step a m11) fun r13 m12 => some (1, m12)) F) Q
      rw [eb_bdR]
      refine eb_bind (P := fun z => z.1 = 1 ∧ et_fa a m z.2 ∧ et_S c L a z.2 (et_te c L p) ∧ z.2 a 5 = v) (et_cStep hL ha (et_S_st ha h _) fun r m1 k1 k2 k3 => eb_some ⟨rfl, et_fa_trans (et_fa_st (et_fa_refl _ _) _ _) k1, k2, k3.trans (eb_st _ _ _ _)⟩) fun z hz => ?_
      rw [hz.1]
      exact h1 _ k1 z.2 hz.2.1 hz.2.2.1 hz.2.2.2
  · rw [if_neg (show ¬ nI (et_kd c L (et_sb c L p)) = 1 from (show ¬ nI (et_kd c L (et_sb c L p)) = nI 1 by rw [nI_eq (by omega) (by decide)]; exact hk1)), et_refuse h, eb_clR, eb_gz0, eb_clR]
    exact h0 (if_neg hk1) _ (et_fa_st (et_fa_refl _ _) _ _) (eb_st _ _ _ _)
/-- the thing behind p is the sign x -/
def et_sg (c : Nat → Nat) (L p x : Nat) : Bool := decide (et_sb c L p < L ∧ c (et_sb c L p) = x)
theorem et_sg_kd {x : Nat} (hx : ¬ (97 ≤ x ∧ x ≤ 122) ∧ ¬ (48 ≤ x ∧ x ≤ 57)) (h : et_sg c L p x = true) : et_kd c L (et_sb c L p) = 3 := by
  obtain ⟨h1, h2⟩ := of_decide_eq_true h
  exact et_kd3.mpr ⟨h1, by rw [h2]; exact hx.1, by rw [h2]; exact hx.2⟩
theorem et_seesSign {x : Nat} (hL : L ≤ 400) (hx : x < 128 ∧ ¬ (97 ≤ x ∧ x ≤ 122) ∧ ¬ (48 ≤ x ∧ x ≤ 57)) (h : et_S c L a m p) : f_X9_seesSign a (nI x) m = some (eb_b2 (et_sg c L p x), m) := by
  obtain ⟨⟨r0, r1, r2, r3, r4⟩, h6, hT⟩ := h
  have hk := et_kd_le (c := c) (L := L) (b := et_sb c L p)
  unfold f_X9_seesSign
  rw [eb_bdR, r2]
  by_cases hk3 : et_kd c L (et_sb c L p) = 3
  · have hb := (et_kd3.mp hk3).1
    rw [if_pos (show nI (et_kd c L (et_sb c L p)) = 3 by rw [hk3]; rfl), eb_bdR, r3, eb_gN (by omega) (by decide), eb_bdR, nI_clamp (by omega), (hT _ (by omega)).2]
    have := (hT (et_sb c L p) (by omega)).1
    by_cases hc : c (et_sb c L p) = x
    · rw [if_pos (by rw [hc]), show et_sg c L p x = true from decide_eq_true ⟨hb, hc⟩]
      rfl
    · rw [if_neg (by rw [nI_eq (by omega) (by omega)]; exact hc), show et_sg c L p x = false from decide_eq_false fun z => hc z.2]
      rfl
  · rw [if_neg (show ¬ nI (et_kd c L (et_sb c L p)) = 3 from (show ¬ nI (et_kd c L (et_sb c L p)) = nI 3 by rw [nI_eq (by omega) (by decide)]; exact hk3))]
    cases hs : et_sg c L p x with
    | false => rfl
    | true => exact absurd (et_sg_kd hx.2 hs) hk3
theorem et_cSign {x : Nat} (hL : L ≤ 400) (ha : a ≠ 1) (hx : x < 128 ∧ ¬ (97 ≤ x ∧ x ≤ 122) ∧ ¬ (48 ≤ x ∧ x ≤ 57)) (h : et_S c L a m p)
    (h0 : et_sg c L p x = false → ∀ m1, et_fa a m m1 → m1 a 6 = nI (et_sb c L p) → eb_W (F 0 m1) Q)
    (h1 : et_sg c L p x = true → ∀ m1, et_fa a m m1 → et_S c L a m1 (et_te c L p) → eb_W (F 1 m1) Q) : eb_W (ea_cl (f_X9_takesSign a (nI x) m) F) Q := by
  unfold f_X9_takesSign
  rw [et_seesSign hL hx h, eb_clR]
  cases hw : et_sg c L p x with
  | false =>
    rw [show eb_b2 false = 0 from rfl, if_pos rfl, et_refuse h, eb_clR, eb_gz0, eb_clR]
    exact h0 hw _ (et_fa_st (et_fa_refl _ _) _ _) (eb_st _ _ _ _)
  | true =>
    rw [show eb_b2 true = 1 from rfl, if_neg (by decide)]
    refine eb_bind (P := fun z => z.1 = 1 ∧ et_fa a m z.2 ∧ et_S c L a z.2 (et_te c L p)) (et_cStep hL ha h fun r m1 k1 k2 _ => eb_some ⟨rfl, k1, k2⟩) fun z hz => ?_
    rw [hz.1]
    exact h1 hw z.2 hz.2.1 hz.2.2
theorem et_cOpen (hL : L ≤ 400) (ha : a ≠ 1) (hT : et_T1 c m) (hF : ∀ r m1, et_fa a m m1 → et_S c L a m1 0 → eb_W (F r m1) Q) : eb_W (ea_cl (f_X9_open a (nI L) m) F) Q := by
  have e : ea_max 0 (ea_min (nI L) 400) = nI L := by
    unfold ea_max ea_min
    rw [if_neg (show ¬ 400 < nI L from (show ¬ nI 400 < nI L from nI_nlt hL (by decide)))]
    by_cases hz : (0 : Int32) < nI L
    · rw [if_pos hz]
    · rw [if_neg hz]
      have : L = 0 := by
        by_cases h0 : 0 < L
        · exact absurd (show nI 0 < nI L from nI_lt h0 (by omega)) hz
        · omega
      rw [this]
      rfl
  have key : eb_W (f_X9_open a (nI L) m) (fun z => et_fa a m z.2 ∧ et_S c L a z.2 0) := by
    unfold f_X9_open
    rw [eb_bdR, eb_bdR, e]
    refine eb_bd (eb_bd (eb_bdE fun m5 e5 => ?_))
    have q1 : m5 a 1 = nI L := by rw [e5, eb_stI _ _ _ (by decide), eb_stI _ _ _ (by decide), eb_st]
    have q4 : m5 a 4 = nI 0 := by rw [e5, eb_stI _ _ _ (by decide), eb_st]; rfl
    have q6 : m5 a 6 = -1 := by rw [e5, eb_st]
    have qf : et_fa a m m5 := by rw [e5]; exact et_fa_st (et_fa_st (et_fa_st (et_fa_refl _ _) _ _) _ _) _ _
    have qT : et_T1 c m5 := fun j hj => by rw [show m5 1 = m 1 from qf 1 (Ne.symm ha)]; exact hT j hj
    clear e5
    refine eb_cl (et_step hL ha qT q1 q4 (Nat.zero_le _)) fun r m1 hz => eb_some ?_
    obtain ⟨hR, hfr⟩ := hz
    refine ⟨et_fa_trans qf (fun b hb => funext fun i => hfr b i (fun q => hb q.1)), hR, ?_, fun j hj => ?_⟩
    · exact (hfr a 6 (by omega)).trans q6
    · show c j < 256 ∧ m1 1 j = nI (c j)
      rw [show m1 1 j = m5 1 j from hfr 1 j (by omega)]; exact qT j hj
  exact eb_bind key fun z hz => hF z.1 z.2 hz.1 hz.2
end READS
