section SONGS
theorem eb_tbN {a b : Int32} (h : eb_tb a b) : ∃ n, n < 256 ∧ a = nI n ∧ (n < 128 → b = nI n) ∧ (128 ≤ n → b < 0) := by
  obtain ⟨h1, h2⟩ := h
  obtain ⟨r1, r2⟩ := lg_i2b_range b
  rw [h2] at r1 r2
  have e : b.toInt = if 2 * b.toBitVec.toNat < 2 ^ 32 then (b.toBitVec.toNat : Int) else (b.toBitVec.toNat : Int) - ((2 ^ 32 : Nat) : Int) := BitVec.toInt_eq_toNat_cond b.toBitVec
  have hb : b.toBitVec.toNat < 2 ^ 32 := b.toBitVec.isLt
  refine ⟨b.toBitVec.toNat % 256, by omega, ?_, fun hn => ?_, fun hn => ?_⟩
  · rw [h1]
    exact pk_and b 8 (m := 255) (by decide)
  · by_cases c : 2 * b.toBitVec.toNat < 2 ^ 32
    · rw [if_pos c] at e
      have e2 : b.toBitVec.toNat % 256 = b.toBitVec.toNat := by omega
      apply Int32.toInt_inj.mp
      rw [e2, nI_toInt (by omega), e]
    · rw [if_neg c] at e
      omega
  · by_cases c : 2 * b.toBitVec.toNat < 2 ^ 32
    · rw [if_pos c] at e
      omega
    · rw [if_neg c] at e
      rw [eb_lt_iff, eb_t0]
      omega
/-- what both sides see: n birds with their tunes, a tape of bytes, its length -/
def eb_SA (m : ea_M) (tu : Nat → Int32) (tb : Nat → Nat) (n : Nat) : Prop := m 2 8 = nI n ∧ (∀ b, b < n → m 6 b = tu b) ∧ ∀ j, j < 400 → m 1 j = nI (tb j)
def eb_SM (m : ea_M) (tu : Nat → Int32) (tb : Nat → Nat) (n L : Nat) : Prop := m 273 0 = nI n ∧ (∀ b, b < n → m 273 (28 + 4 * b) = tu b) ∧ m 272 11 = nI L ∧ ∀ j, j < 400 → (tb j < 128 → m 278 j = nI (tb j)) ∧ (128 ≤ tb j → m 278 j < 0)
def eb_tu1 (tu : Nat → Int32) (s : Int32) (b : Nat) (a : Int32) : Int32 := if (s >>> (nI b &&& 31)) &&& 1 = 0 then a else a ||| tu b
def eb_tun (tu : Nat → Int32) (n : Nat) (s : Int32) : Int32 := eb_F (eb_tu1 tu s) 0 n
/-- the first k pairs are songs -/
def eb_so (tb : Nat → Nat) : Nat → Bool
  | 0 => true
  | k + 1 => eb_so tb k && (decide (tb (2 * k) < 6) && decide (tb (2 * k + 1) ≤ 1))
/-- the first k pairs fit the tunes t -/
def eb_ft (tb : Nat → Nat) (t : Int32) : Nat → Bool
  | 0 => true
  | k + 1 => eb_ft tb t k && decide ((t >>> (nI (tb (2 * k)) &&& 31)) &&& 1 = nI (tb (2 * k + 1)))
variable {m : ea_M} {tu : Nat → Int32} {tb : Nat → Nat} {n L K : Nat}
theorem eb_so0 {i : Nat} (h : eb_so tb i = false) : ∀ d, eb_so tb (i + d) = false
  | 0 => h
  | d + 1 => by
    show (eb_so tb (i + d) && _) = false
    rw [eb_so0 h d]
    rfl
theorem eb_ft0 {t : Int32} {i : Nat} (h : eb_ft tb t i = false) : ∀ d, eb_ft tb t (i + d) = false
  | 0 => h
  | d + 1 => by
    show (eb_ft tb t (i + d) && _) = false
    rw [eb_ft0 h d]
    rfl
theorem eb_soK {k : Nat} (h : eb_so tb K = true) (hk : k < K) : tb (2 * k) < 6 ∧ tb (2 * k + 1) ≤ 1 := by
  cases e : eb_so tb (k + 1) with
  | false =>
    have := eb_so0 e (K - (k + 1))
    rw [show k + 1 + (K - (k + 1)) = K by omega, h] at this
    cases this
  | true =>
    have e : (eb_so tb k && (decide (tb (2 * k) < 6) && decide (tb (2 * k + 1) ≤ 1))) = true := e
    rw [Bool.and_eq_true, Bool.and_eq_true, decide_eq_true_eq, decide_eq_true_eq] at e
    exact e.2
theorem eb_tunA (h : eb_SA m tu tb n) (hn : n ≤ 6) (s : Int32) : f_X2_tunesOf 2 s m = some (eb_tun tu n s, m) := by
  unfold f_X2_tunesOf
  refine eb_loopB n (fun i => (eb_F (eb_tu1 tu s) 0 i, nI i, m)) (eb_tun tu n s, m) rfl (fun i hi => ?_) ?_ (by unfold ea_fuel; omega) rfl
  · unfold f_X2_tunesOf_s4 f_X2_tunesOf_j29
    dsimp only
    rw [h.1, eb_bdR, if_neg (nI_ge hi (by omega)), eb_bdR, eb_gN (by omega) (by decide), eb_bdR, eb_bdR, nI_clamp (by omega), show m (2 + 4) i = tu i from h.2.1 i hi, nI_1]
    show _ = some (Sum.inl (eb_tu1 tu s i (eb_F (eb_tu1 tu s) 0 i), nI (i + 1), m))
    unfold eb_tu1
    by_cases q : (s >>> (nI i &&& 31)) &&& 1 = 0
    · rw [if_pos q, if_pos q]
    · rw [if_neg q, if_neg q]
  · unfold f_X2_tunesOf_s4
    dsimp only
    rw [h.1, eb_bdR, if_pos (nI_le (Nat.le_refl n) (by omega))]
    rfl
theorem eb_tunM (h : eb_SM m tu tb n L) (hn : n ≤ 6) (s : Int32) : f_X12_songsOf s m = some (eb_tun tu n s, m) := by
  unfold f_X12_songsOf
  refine eb_loopB n (fun i => (eb_F (eb_tu1 tu s) 0 i, nI i, m)) (eb_tun tu n s, m) rfl (fun i hi => ?_) ?_ (by unfold ea_fuel; omega) rfl
  · have o : f_X12_ofBird (nI i) 2 m = some (tu i, m) := by
      rw [show (2 : Int32) = nI 2 from rfl, eb_ofBird (by omega), show 26 + 4 * i + 2 = 28 + 4 * i by omega, h.2.1 i hi]
    unfold f_X12_songsOf_s4 f_X12_songsOf_j31
    dsimp only
    rw [eb_birds, eb_clR, h.1, if_neg (nI_ge hi (by omega))]
    show _ = some (Sum.inl (eb_tu1 tu s i (eb_F (eb_tu1 tu s) 0 i), nI (i + 1), m))
    unfold eb_tu1
    by_cases q : (s >>> (nI i &&& 31)) &&& 1 = 0
    · rw [eb_hasF ((eb_bit0 _ _).mp q), eb_clR, if_pos rfl, eb_bdR, Int32.or_zero, nI_1, if_pos q]
    · rw [eb_hasT (by rcases eb_bit01 (s >>> (nI i &&& 31)) with z | z; exact absurd z q; exact z), eb_clR, if_neg eb_ne10, o, eb_clR, eb_bdR, nI_1, if_neg q]
  · unfold f_X12_songsOf_s4
    dsimp only
    rw [eb_birds, eb_clR, h.1, if_pos (nI_le (Nat.le_refl n) (by omega))]
    rfl
/-! does the tape tell songs -/
theorem eb_needA (h : ∀ j, j < 400 → m 1 j = nI (tb j)) (hb : ∀ j, tb j < 256) (hL : L ≤ 400) : f_X11_needSongs (nI L) m = some (if L ≤ 40 ∧ L % 2 = 0 ∧ eb_so tb (L / 2) = true then 0 else 2, 0, m) := by
  have z : f_X11_needSongs_j17 (nI L) 0 m = some (2, 0, m) := by
    unfold f_X11_needSongs_j17
    rw [show (ea_fuel : Nat) = 99999 + 1 from rfl, eb_loop_inr (r := (0, m)) (by unfold f_X11_needSongs_s20; rw [if_pos rfl])]
    rfl
  unfold f_X11_needSongs
  by_cases h40 : L ≤ 40
  · rw [if_neg (show ¬ (40 : Int32) < nI L from nI_nlt (a := 40) h40 (by decide)), eb_bdR, show nI L - nI L / 2 * 2 = nI (L % 2) from pk_rem (d := 2) (by omega) (by decide) (by decide)]
    by_cases h2 : L % 2 = 0
    · rw [h2, if_pos (show nI 0 = 0 from rfl)]
      have key : eb_W (ea_loop (f_X11_needSongs_s20 (nI L)) ea_fuel (1, 0, m)) (fun r => r = (eb_b2 (eb_so tb (L / 2)), m)) := by
        refine eb_for (L / 2 + 1) (fun k s => (s = (1, nI (2 * k), m) ∧ eb_so tb k = true ∧ k ≤ L / 2) ∨ (s.1 = 0 ∧ s.2.2 = m ∧ eb_so tb (L / 2) = false)) ?_ ?_ (by unfold ea_fuel; omega) (Or.inl ⟨rfl, rfl, by omega⟩)
        · rintro k s hk (⟨rfl, k1, k2⟩ | ⟨k1, k2, k3⟩)
          · unfold f_X11_needSongs_s20 f_X11_needSongs_j58 f_X11_needSongs_j59
            dsimp only
            rw [if_neg eb_ne10, nI_1]
            by_cases hk2 : k = L / 2
            · rw [if_pos (nI_le (by omega) (by omega))]
              refine eb_some ?_
              rw [← hk2, k1]
              rfl
            · have nx : eb_so tb (k + 1) = (eb_so tb k && (decide (tb (2 * k) < 6) && decide (tb (2 * k + 1) ≤ 1))) := rfl
              rw [k1, Bool.true_and] at nx
              have b0 := hb (2 * k)
              have b1 := hb (2 * k + 1)
              rw [if_neg (nI_ge (by omega) (by omega)), eb_gN (by omega) (by decide), eb_bdR, nI_clamp (by omega), h _ (by omega), eb_gN (by omega) (by decide), eb_bdR, nI_clamp (by omega), h _ (by omega), show nI (2 * k) + 2 = nI (2 * (k + 1)) from nI_add (2 * k) 2]
              by_cases c0 : tb (2 * k) < 6
              · rw [if_neg (show ¬ (6 : Int32) ≤ nI (tb (2 * k)) from nI_ge (b := 6) c0 (by decide))]
                by_cases c1 : tb (2 * k + 1) ≤ 1
                · rw [if_neg (show ¬ (1 : Int32) < nI (tb (2 * k + 1)) from nI_nlt (a := 1) c1 (by decide))]
                  exact eb_some (Or.inl ⟨rfl, by rw [nx, decide_eq_true c0, decide_eq_true c1]; rfl, by omega⟩)
                · rw [if_pos (show (1 : Int32) < nI (tb (2 * k + 1)) from nI_lt (a := 1) (by omega) (by omega))]
                  refine eb_some (Or.inr ⟨rfl, rfl, ?_⟩)
                  have := eb_so0 (tb := tb) (i := k + 1) (by rw [nx, decide_eq_false c1, Bool.and_false]) (L / 2 - (k + 1))
                  rw [show k + 1 + (L / 2 - (k + 1)) = L / 2 by omega] at this
                  exact this
              · rw [if_pos (show (6 : Int32) ≤ nI (tb (2 * k)) from nI_le (a := 6) (by omega) (by omega))]
                refine eb_some (Or.inr ⟨rfl, rfl, ?_⟩)
                have := eb_so0 (tb := tb) (i := k + 1) (by rw [nx, decide_eq_false c0, Bool.false_and]) (L / 2 - (k + 1))
                rw [show k + 1 + (L / 2 - (k + 1)) = L / 2 by omega] at this
                exact this
          · unfold f_X11_needSongs_s20
            rw [if_pos k1, k1, k2, k3]
            exact eb_some rfl
        · rintro s (⟨rfl, k1, k2⟩ | ⟨k1, k2, k3⟩)
          · omega
          · unfold f_X11_needSongs_s20
            rw [if_pos k1, k1, k2, k3]
            exact eb_some rfl
      obtain ⟨r, e, hr⟩ := key
      unfold f_X11_needSongs_j17
      rw [e, hr, eb_obR]
      cases q : eb_so tb (L / 2) with
      | true =>
        rw [if_pos (show L ≤ 40 ∧ 0 = 0 ∧ true = true from ⟨h40, rfl, rfl⟩)]
        rfl
      | false =>
        rw [if_neg (show ¬ (L ≤ 40 ∧ 0 = 0 ∧ false = true) from fun y => by cases y.2.2)]
        rfl
    · rw [if_neg (show ¬ nI (L % 2) = 0 from nI_ne0 (by omega) (by omega)), if_neg (fun y => h2 y.2.1)]
      exact z
  · rw [if_pos (show (40 : Int32) < nI L from nI_lt (a := 40) (by omega) (by omega)), if_neg (fun y => h40 y.1)]
    exact z
theorem eb_toldM (h : ∀ j, j < 400 → (tb j < 128 → m 278 j = nI (tb j)) ∧ (128 ≤ tb j → m 278 j < 0)) (e11 : m 272 11 = nI L) (hb : ∀ j, tb j < 256) (hL : L ≤ 400) : f_X12_isTold m = some (if L ≤ 40 ∧ L % 2 = 0 ∧ eb_so tb (L / 2) = true then 1 else 0, m) := by
  have z : f_X12_isTold_j23 0 m = some (0, m) := by
    unfold f_X12_isTold_j23
    have q : f_X12_isTold_s26 (0, 0, m) = some (.inr (0, m)) := by
      unfold f_X12_isTold_s26
      dsimp only
      rw [e11, eb_bdR]
      by_cases q : nI L ≤ 0
      · rw [if_pos q]
      · rw [if_neg q, if_pos rfl]
    rw [show (ea_fuel : Nat) = 99999 + 1 from rfl, eb_loop_inr q]
    rfl
  have i5 : ∀ x : Int32, f_X12_in x 0 5 m = some (if 0 ≤ x ∧ x ≤ 5 then 1 else 0, m) := fun x => eb_inW x 0 5 m
  have i1 : ∀ x : Int32, f_X12_in x 0 1 m = some (if 0 ≤ x ∧ x ≤ 1 then 1 else 0, m) := fun x => eb_inW x 0 1 m
  unfold f_X12_isTold
  rw [e11, eb_bdR, eb_bdR, eb_bdR, show nI L - nI L / 2 * 2 = nI (L % 2) from pk_rem (d := 2) (by omega) (by decide) (by decide)]
  by_cases h2 : L % 2 = 0
  · rw [h2, if_pos (show nI 0 = 0 from rfl)]
    by_cases h40 : L ≤ 40
    · rw [if_neg (show ¬ (40 : Int32) < nI L from nI_nlt (a := 40) h40 (by decide))]
      have key : eb_W (ea_loop f_X12_isTold_s26 ea_fuel (1, 0, m)) (fun r => r = (eb_b2 (eb_so tb (L / 2)), m)) := by
        refine eb_for (L / 2 + 1) (fun k s => (s = (1, nI (2 * k), m) ∧ eb_so tb k = true ∧ k ≤ L / 2) ∨ (s.1 = 0 ∧ s.2.2 = m ∧ eb_so tb (L / 2) = false)) ?_ ?_ (by unfold ea_fuel; omega) (Or.inl ⟨rfl, rfl, by omega⟩)
        · rintro k s hk (⟨rfl, k1, k2⟩ | ⟨k1, k2, k3⟩)
          · unfold f_X12_isTold_s26 f_X12_isTold_j72 f_X12_isTold_j73
            dsimp only
            rw [e11, eb_bdR]
            by_cases hk2 : k = L / 2
            · rw [if_pos (nI_le (by omega) (by omega))]
              refine eb_some ?_
              rw [← hk2, k1]
              rfl
            · have nx : eb_so tb (k + 1) = (eb_so tb k && (decide (tb (2 * k) < 6) && decide (tb (2 * k + 1) ≤ 1))) := rfl
              rw [k1, Bool.true_and] at nx
              have b0 := hb (2 * k)
              have b1 := hb (2 * k + 1)
              have fl : ∀ (q : eb_so tb (k + 1) = false), eb_so tb (L / 2) = false := fun q => by
                have := eb_so0 (tb := tb) (i := k + 1) q (L / 2 - (k + 1))
                rw [show k + 1 + (L / 2 - (k + 1)) = L / 2 by omega] at this
                exact this
              rw [if_neg (nI_ge (by omega) (by omega)), if_neg eb_ne10, eb_gN (by omega) (by decide), eb_bdR, nI_clamp (by omega), i5, eb_clR, nI_1, eb_gN (by omega) (by decide), eb_bdR, nI_clamp (by omega), i1, eb_clR, show nI (2 * k) + 2 = nI (2 * (k + 1)) from nI_add (2 * k) 2]
              by_cases c0 : tb (2 * k) < 6
              · rw [(h (2 * k) (by omega)).1 (by omega), if_pos (show 0 ≤ nI (tb (2 * k)) ∧ nI (tb (2 * k)) ≤ 5 from ⟨nI_pos' (by omega), nI_le (b := 5) (by omega) (by decide)⟩), if_neg eb_ne10]
                by_cases c1 : tb (2 * k + 1) ≤ 1
                · rw [(h (2 * k + 1) (by omega)).1 (by omega), if_pos (show 0 ≤ nI (tb (2 * k + 1)) ∧ nI (tb (2 * k + 1)) ≤ 1 from ⟨nI_pos' (by omega), nI_le (b := 1) c1 (by decide)⟩), if_neg eb_ne10]
                  exact eb_some (Or.inl ⟨rfl, by rw [nx, decide_eq_true c0, decide_eq_true c1]; rfl, by omega⟩)
                · have w1 : ¬ (0 ≤ m 278 (2 * k + 1) ∧ m 278 (2 * k + 1) ≤ 1) := by
                    by_cases c2 : tb (2 * k + 1) < 128
                    · rw [(h (2 * k + 1) (by omega)).1 c2]
                      exact fun y => nI_ge (b := tb (2 * k + 1)) (a := 1) (by omega) (by omega) y.2
                    · exact fun y => absurd ((h (2 * k + 1) (by omega)).2 (by omega)) (Int32.not_lt.mpr y.1)
                  rw [if_neg w1, if_pos rfl]
                  exact eb_some (Or.inr ⟨rfl, rfl, fl (by rw [nx, decide_eq_false c1, Bool.and_false])⟩)
              · have w1 : ¬ (0 ≤ m 278 (2 * k) ∧ m 278 (2 * k) ≤ 5) := by
                  by_cases c2 : tb (2 * k) < 128
                  · rw [(h (2 * k) (by omega)).1 c2]
                    exact fun y => nI_ge (b := tb (2 * k)) (a := 5) (by omega) (by omega) y.2
                  · exact fun y => absurd ((h (2 * k) (by omega)).2 (by omega)) (Int32.not_lt.mpr y.1)
                rw [if_neg w1, if_pos rfl]
                exact eb_some (Or.inr ⟨rfl, rfl, fl (by rw [nx, decide_eq_false c0, Bool.false_and])⟩)
          · unfold f_X12_isTold_s26
            rw [k2, e11, eb_bdR, if_pos k1, k1, k3]
            by_cases q : nI L ≤ s.2.1
            · rw [if_pos q]
              exact eb_some rfl
            · rw [if_neg q]
              exact eb_some rfl
        · rintro s (⟨rfl, k1, k2⟩ | ⟨k1, k2, k3⟩)
          · omega
          · unfold f_X12_isTold_s26
            rw [k2, e11, eb_bdR, if_pos k1, k1, k3]
            by_cases q : nI L ≤ s.2.1
            · rw [if_pos q]
              exact eb_some rfl
            · rw [if_neg q]
              exact eb_some rfl
      obtain ⟨r, e, hr⟩ := key
      unfold f_X12_isTold_j23
      rw [e, hr, eb_obR]
      cases q : eb_so tb (L / 2) with
      | true =>
        rw [if_pos (show L ≤ 40 ∧ 0 = 0 ∧ true = true from ⟨h40, rfl, rfl⟩)]
        rfl
      | false =>
        rw [if_neg (show ¬ (L ≤ 40 ∧ 0 = 0 ∧ false = true) from fun y => by cases y.2.2)]
        rfl
    · rw [if_pos (show (40 : Int32) < nI L from nI_lt (a := 40) (by omega) (by omega)), if_neg (fun y => h40 y.1)]
      exact z
  · rw [if_neg (show ¬ nI (L % 2) = 0 from nI_ne0 (by omega) (by omega)), if_neg (fun y => h2 y.2.1)]
    exact z
end SONGS
