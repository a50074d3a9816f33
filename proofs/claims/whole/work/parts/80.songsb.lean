section SONGSB
variable {m : ea_M} {tu : Nat → Int32} {tb : Nat → Nat} {n L : Nat}
theorem eb_canA (h : eb_SA m tu tb n) (hn : n ≤ 6) (hL : L ≤ 40) (h2 : L % 2 = 0) (s : Int32) : f_X11_canHaveSung s (nI L) m = some (eb_b2 (eb_ft tb (eb_tun tu n s) (L / 2)), m) := by
  unfold f_X11_canHaveSung
  rw [eb_tunA h hn, eb_clR]
  obtain ⟨t, et⟩ : ∃ t, t = eb_tun tu n s := ⟨_, rfl⟩
  rw [← et]
  have key : eb_W (ea_loop (f_X11_canHaveSung_s12 (nI L) t) ea_fuel (0, m)) (fun r => (r = Sum.inl (0, m) ∧ eb_ft tb t (L / 2) = false) ∨ (r = Sum.inr m ∧ eb_ft tb t (L / 2) = true)) := by
    refine eb_for (L / 2) (fun k s => s = (nI (2 * k), m) ∧ eb_ft tb t k = true) ?_ ?_ (by unfold ea_fuel; omega) ⟨rfl, rfl⟩
    · rintro k s hk ⟨rfl, k1⟩
      have nx : eb_ft tb t (k + 1) = (eb_ft tb t k && decide ((t >>> (nI (tb (2 * k)) &&& 31)) &&& 1 = nI (tb (2 * k + 1)))) := rfl
      rw [k1, Bool.true_and] at nx
      unfold f_X11_canHaveSung_s12
      dsimp only
      rw [nI_1, if_neg (nI_ge (by omega) (by omega)), if_neg (show ¬ (400 : Int32) ≤ nI (2 * k + 1) from nI_ge (b := 400) (by omega) (by decide)), eb_gN (by omega) (by decide), eb_bdR, nI_clamp (by omega), h.2.2 _ (by omega), eb_bdR, eb_gN (by omega) (by decide), eb_bdR, nI_clamp (by omega), h.2.2 _ (by omega), show nI (2 * k) + 2 = nI (2 * (k + 1)) from nI_add (2 * k) 2]
      refine eb_ite (fun z => eb_some ⟨rfl, by rw [nx, decide_eq_true z]⟩) fun z => eb_some (Or.inl ⟨rfl, ?_⟩)
      have := eb_ft0 (tb := tb) (t := t) (i := k + 1) (by rw [nx, decide_eq_false z]) (L / 2 - (k + 1))
      rw [show k + 1 + (L / 2 - (k + 1)) = L / 2 by omega] at this
      exact this
    · rintro s ⟨rfl, k1⟩
      unfold f_X11_canHaveSung_s12
      dsimp only
      rw [nI_1, if_pos (nI_le (by omega) (by omega))]
      exact eb_some (Or.inr ⟨rfl, k1⟩)
  obtain ⟨r, e, hr⟩ := key
  rw [e]
  rcases hr with ⟨rfl, hc⟩ | ⟨rfl, hc⟩
  · rw [hc]; rfl
  · rw [hc]; rfl
theorem eb_fitsM (h : eb_SM m tu tb n L) (hn : n ≤ 6) (hL : L ≤ 40) (h2 : L % 2 = 0) (hs : eb_so tb (L / 2) = true) (s : Int32) : f_X12_fits s m = some (eb_b2 (eb_ft tb (eb_tun tu n s) (L / 2)), m) := by
  unfold f_X12_fits
  rw [eb_tunM h hn, eb_clR]
  obtain ⟨t, et⟩ : ∃ t, t = eb_tun tu n s := ⟨_, rfl⟩
  rw [← et]
  refine eb_loopB (L / 2) (fun k => (eb_b2 (eb_ft tb t k), nI (2 * k), m)) (eb_b2 (eb_ft tb t (L / 2)), m) rfl (fun k hk => ?_) ?_ (by unfold ea_fuel; omega) ?_
  · have nx : eb_ft tb t (k + 1) = (eb_ft tb t k && decide ((t >>> (nI (tb (2 * k)) &&& 31)) &&& 1 = nI (tb (2 * k + 1)))) := rfl
    obtain ⟨c0, c1⟩ := eb_soK hs hk
    unfold f_X12_fits_s11 f_X12_fits_j60 f_X12_fits_j53 f_X12_fits_j61 f_X12_fits_j60 f_X12_fits_j61
    dsimp only
    rw [h.2.2.1, eb_bdR, if_neg (nI_ge (by omega) (by omega)), nx, show nI (2 * k) + 2 = nI (2 * (k + 1)) from nI_add (2 * k) 2]
    cases q : eb_ft tb t k with
    | false => rw [if_pos (show eb_b2 false = 0 from rfl)]; rfl
    | true =>
      rw [if_neg (show ¬ eb_b2 true = 0 by decide), eb_gN (by omega) (by decide), eb_bdR, nI_clamp (by omega), (h.2.2.2 (2 * k) (by omega)).1 (by omega), Bool.true_and]
      obtain ⟨x, ex⟩ : ∃ x, x = (t >>> (nI (tb (2 * k)) &&& 31)) &&& 1 := ⟨_, rfl⟩
      have hx : x = 0 ∨ x = 1 := by rw [ex]; exact eb_bit01 _
      have hh : f_X12_has t (nI (tb (2 * k))) m = some (x, m) := by
        rcases hx with z | z
        · rw [eb_hasF (by rw [ex] at z; exact (eb_bit0 _ _).mp z), z]
        · rw [eb_hasT (by rw [ex] at z; exact z), z]
      rw [hh, eb_clR, nI_1, eb_gN (by omega) (by decide), eb_bdR, nI_clamp (by omega), (h.2.2.2 (2 * k + 1) (by omega)).1 (by omega), ← ex]
      obtain q1 | q1 : tb (2 * k + 1) = 0 ∨ tb (2 * k + 1) = 1 := by omega
      · rw [q1, if_neg (show ¬ nI 0 = 1 by decide)]
        rcases hx with z | z
        · rw [z, if_pos rfl]; rfl
        · rw [z, if_neg eb_ne10]; rfl
      · rw [q1, if_pos (show nI 1 = 1 from rfl)]
        rcases hx with z | z
        · rw [z, if_neg (show ¬ (0 : Int32) = 1 by decide)]; rfl
        · rw [z, if_pos rfl]; rfl
  · unfold f_X12_fits_s11
    dsimp only
    rw [h.2.2.1, eb_bdR, if_pos (nI_le (by omega) (by omega))]
  · dsimp only
    cases eb_ft tb t (L / 2) with
    | true => rfl
    | false => rfl
/-- which sets can have sung -/
def eb_fit (tu : Nat → Int32) (tb : Nat → Nat) (n L i : Nat) : Bool := eb_ft tb (eb_tun tu n (nI i)) (L / 2)
def eb_sg1 (fit : Nat → Bool) (i : Nat) (t : Int32 × Int32) : Int32 × Int32 := if fit i = true then (t.1 + 1, t.2 &&& nI i) else t
theorem eb_songsA (h : eb_SA m tu tb n) (hn : n ≤ 6) (hL : L ≤ 40) (h2 : L % 2 = 0) (p x : Int32) : ea_loop (f_X11_songs_s28 p (nI L)) ea_fuel (0, x, 0, m) = some ((eb_F (eb_sg1 (eb_fit tu tb n L)) (0, x) (2 ^ n)).1, (eb_F (eb_sg1 (eb_fit tu tb n L)) (0, x) (2 ^ n)).2, m) := by
  have hN : 2 ^ n ≤ 64 := Nat.pow_le_pow_right (n := 2) (j := 6) (by decide) hn
  refine eb_loopF (2 ^ n) (fun i => ((eb_F (eb_sg1 (eb_fit tu tb n L)) (0, x) i).1, (eb_F (eb_sg1 (eb_fit tu tb n L)) (0, x) i).2, nI i, m)) _ rfl (fun i hi => ?_) ?_ (by unfold ea_fuel; omega)
  · unfold f_X11_songs_s28 f_X11_songs_j62
    dsimp only
    rw [h.1, eb_bdR, eb_shl1 n (by omega), if_neg (nI_ge hi (by omega)), eb_canA h hn hL h2, eb_clR, nI_1, eb_bdR]
    show _ = some (Sum.inl ((eb_sg1 (eb_fit tu tb n L) i (eb_F (eb_sg1 (eb_fit tu tb n L)) (0, x) i)).1, (eb_sg1 (eb_fit tu tb n L) i (eb_F (eb_sg1 (eb_fit tu tb n L)) (0, x) i)).2, nI (i + 1), m))
    have ef : eb_fit tu tb n L i = eb_ft tb (eb_tun tu n (nI i)) (L / 2) := rfl
    obtain ⟨F, eF⟩ : ∃ F, F = eb_F (eb_sg1 (eb_fit tu tb n L)) (0, x) i := ⟨_, rfl⟩
    rw [← eF]
    unfold eb_sg1
    rw [ef]
    cases eb_ft tb (eb_tun tu n (nI i)) (L / 2) with
    | true => rfl
    | false => rfl
  · unfold f_X11_songs_s28
    dsimp only
    rw [h.1, eb_bdR, eb_shl1 n (by omega), if_pos (nI_le (Nat.le_refl _) (by omega))]
theorem eb_songsM (h : eb_SM m tu tb n L) (hn : n ≤ 6) (hL : L ≤ 40) (h2 : L % 2 = 0) (hs : eb_so tb (L / 2) = true) (p x : Int32) : ea_loop (f_X12_songs_s40 p) ea_fuel (0, x, 0, m) = some ((eb_F (eb_sg1 (eb_fit tu tb n L)) (0, x) (2 ^ n)).1, (eb_F (eb_sg1 (eb_fit tu tb n L)) (0, x) (2 ^ n)).2, m) := by
  have hN : 2 ^ n ≤ 64 := Nat.pow_le_pow_right (n := 2) (j := 6) (by decide) hn
  refine eb_loopF (2 ^ n) (fun i => ((eb_F (eb_sg1 (eb_fit tu tb n L)) (0, x) i).1, (eb_F (eb_sg1 (eb_fit tu tb n L)) (0, x) i).2, nI i, m)) _ rfl (fun i hi => ?_) ?_ (by unfold ea_fuel; omega)
  · unfold f_X12_songs_s40 f_X12_songs_j71
    dsimp only
    rw [eb_birds, eb_clR, h.1, eb_shl1 n (by omega), if_neg (nI_ge hi (by omega)), eb_fitsM h hn hL h2 hs, eb_clR, nI_1, eb_bdR]
    show _ = some (Sum.inl ((eb_sg1 (eb_fit tu tb n L) i (eb_F (eb_sg1 (eb_fit tu tb n L)) (0, x) i)).1, (eb_sg1 (eb_fit tu tb n L) i (eb_F (eb_sg1 (eb_fit tu tb n L)) (0, x) i)).2, nI (i + 1), m))
    have ef : eb_fit tu tb n L i = eb_ft tb (eb_tun tu n (nI i)) (L / 2) := rfl
    obtain ⟨F, eF⟩ : ∃ F, F = eb_F (eb_sg1 (eb_fit tu tb n L)) (0, x) i := ⟨_, rfl⟩
    rw [← eF]
    unfold eb_sg1
    rw [ef]
    cases eb_ft tb (eb_tun tu n (nI i)) (L / 2) with
    | true => rfl
    | false => rfl
  · unfold f_X12_songs_s40
    dsimp only
    rw [eb_birds, eb_clR, h.1, eb_shl1 n (by omega), if_pos (nI_le (Nat.le_refl _) (by omega))]
/-! ask -/
def eb_sng (tu : Nat → Int32) (n s i : Nat) : Bool := decide ((eb_tun tu n (nI i) >>> (nI s &&& 31)) &&& 1 = 1)
def eb_cn (fit : Nat → Bool) (N : Nat) : Nat := eb_NS (fun i => if fit i then 1 else 0) N
theorem eb_cn_le (fit : Nat → Bool) : ∀ N, eb_cn fit N ≤ N
  | 0 => Nat.le_refl _
  | N + 1 => by
    have := eb_cn_le fit N
    show eb_cn fit N + (if fit N then 1 else 0) ≤ N + 1
    cases fit N with
    | true => rw [if_pos rfl]; omega
    | false => rw [if_neg (by decide)]; omega
theorem eb_cn_add (fit sing : Nat → Bool) : ∀ N, eb_cn (fun i => fit i && sing i) N + eb_cn (fun i => fit i && !sing i) N = eb_cn fit N
  | 0 => rfl
  | N + 1 => by
    have := eb_cn_add fit sing N
    show eb_cn (fun i => fit i && sing i) N + (if (fit N && sing N) = true then 1 else 0) + (eb_cn (fun i => fit i && !sing i) N + (if (fit N && !sing N) = true then 1 else 0)) = eb_cn fit N + (if fit N = true then 1 else 0)
    cases fit N <;> cases sing N <;> (simp only [Bool.and_true, Bool.and_false, Bool.not_true, Bool.not_false, if_true, Bool.false_eq_true, if_false]; omega)
theorem eb_stsA (h : eb_SA m tu tb n) (hn : n ≤ 6) (hL : L ≤ 40) (h2 : L % 2 = 0) (s : Nat) (b : Bool) : f_X11_setsThatSing (nI s) (nI L) (eb_b2 b) m = some (nI (eb_cn (fun i => eb_fit tu tb n L i && (if b then eb_sng tu n s i else !eb_sng tu n s i)) (2 ^ n)), m) := by
  have hN : 2 ^ n ≤ 64 := Nat.pow_le_pow_right (n := 2) (j := 6) (by decide) hn
  unfold f_X11_setsThatSing
  refine eb_loopB (2 ^ n) (fun i => (nI (eb_cn (fun i => eb_fit tu tb n L i && (if b then eb_sng tu n s i else !eb_sng tu n s i)) i), nI i, m)) (nI (eb_cn (fun i => eb_fit tu tb n L i && (if b then eb_sng tu n s i else !eb_sng tu n s i)) (2 ^ n)), m) rfl (fun i hi => ?_) ?_ (by unfold ea_fuel; omega) rfl
  · have nx : eb_cn (fun i => eb_fit tu tb n L i && (if b then eb_sng tu n s i else !eb_sng tu n s i)) (i + 1) = eb_cn (fun i => eb_fit tu tb n L i && (if b then eb_sng tu n s i else !eb_sng tu n s i)) i + (if (eb_fit tu tb n L i && (if b then eb_sng tu n s i else !eb_sng tu n s i)) = true then 1 else 0) := rfl
    have ef : eb_fit tu tb n L i = eb_ft tb (eb_tun tu n (nI i)) (L / 2) := rfl
    unfold f_X11_setsThatSing_s6 f_X11_setsThatSing_j50
    dsimp only
    rw [h.1, eb_bdR, eb_shl1 n (by omega), if_neg (nI_ge hi (by omega)), eb_tunA h hn, eb_clR, eb_bdR, eb_canA h hn hL h2, eb_clR, nI_1, nI_1, nx, ef]
    obtain ⟨c, ec⟩ : ∃ c, c = eb_cn (fun i => eb_fit tu tb n L i && (if b then eb_sng tu n s i else !eb_sng tu n s i)) i := ⟨_, rfl⟩
    rw [← ec]
    have es : eb_sng tu n s i = decide ((eb_tun tu n (nI i) >>> (nI s &&& 31)) &&& 1 = 1) := rfl
    rw [es]
    obtain ⟨v, ev⟩ : ∃ v, v = (eb_tun tu n (nI i) >>> (nI s &&& 31)) &&& 1 := ⟨_, rfl⟩
    have hv : v = 0 ∨ v = 1 := by rw [ev]; exact eb_bit01 _
    rw [← ev]
    rcases hv with rfl | rfl <;> cases b <;> cases eb_ft tb (eb_tun tu n (nI i)) (L / 2) <;> rfl
  · unfold f_X11_setsThatSing_s6
    dsimp only
    rw [h.1, eb_bdR, eb_shl1 n (by omega), if_pos (nI_le (Nat.le_refl _) (by omega))]
theorem eb_askI (h : eb_SM m tu tb n L) (hn : n ≤ 6) (hL : L ≤ 40) (h2 : L % 2 = 0) (hs : eb_so tb (L / 2) = true) (s : Nat) (x y : Int32) : ea_loop (f_X12_ask_s49 (x, y, nI s, m)) ea_fuel (0, 0, 0, m) = some (nI (eb_cn (eb_fit tu tb n L) (2 ^ n)), nI (eb_cn (fun i => eb_fit tu tb n L i && eb_sng tu n s i) (2 ^ n)), m) := by
  have hN : 2 ^ n ≤ 64 := Nat.pow_le_pow_right (n := 2) (j := 6) (by decide) hn
  refine eb_loopF (2 ^ n) (fun i => (nI (eb_cn (eb_fit tu tb n L) i), nI (eb_cn (fun i => eb_fit tu tb n L i && eb_sng tu n s i) i), nI i, m)) _ rfl (fun i hi => ?_) ?_ (by unfold ea_fuel; omega)
  · have nx : eb_cn (eb_fit tu tb n L) (i + 1) = eb_cn (eb_fit tu tb n L) i + (if eb_fit tu tb n L i = true then 1 else 0) := rfl
    have nx2 : eb_cn (fun i => eb_fit tu tb n L i && eb_sng tu n s i) (i + 1) = eb_cn (fun i => eb_fit tu tb n L i && eb_sng tu n s i) i + (if (eb_fit tu tb n L i && eb_sng tu n s i) = true then 1 else 0) := rfl
    have ef : eb_fit tu tb n L i = eb_ft tb (eb_tun tu n (nI i)) (L / 2) := rfl
    have es : eb_sng tu n s i = decide ((eb_tun tu n (nI i) >>> (nI s &&& 31)) &&& 1 = 1) := rfl
    unfold f_X12_ask_s49 f_X12_ask_j90
    dsimp only
    rw [eb_birds, eb_clR, h.1, eb_shl1 n (by omega), if_neg (nI_ge hi (by omega)), eb_fitsM h hn hL h2 hs, eb_clR, eb_tunM h hn, eb_clR, eb_bdR, eb_bdR, nI_1, nI_1, nx, nx2, es, ef]
    obtain ⟨c, ec⟩ : ∃ c, c = eb_cn (eb_fit tu tb n L) i := ⟨_, rfl⟩
    obtain ⟨d, ed⟩ : ∃ d, d = eb_cn (fun i => eb_fit tu tb n L i && eb_sng tu n s i) i := ⟨_, rfl⟩
    rw [← ec, ← ed]
    obtain ⟨v, ev⟩ : ∃ v, v = (eb_tun tu n (nI i) >>> (nI s &&& 31)) &&& 1 := ⟨_, rfl⟩
    have hv : v = 0 ∨ v = 1 := by rw [ev]; exact eb_bit01 _
    rw [← ev]
    rcases hv with rfl | rfl
    · rw [Int32.add_zero]
      cases eb_ft tb (eb_tun tu n (nI i)) (L / 2) <;> rfl
    · rw [nI_1]
      cases eb_ft tb (eb_tun tu n (nI i)) (L / 2) <;> rfl
  · unfold f_X12_ask_s49
    dsimp only
    rw [eb_birds, eb_clR, h.1, eb_shl1 n (by omega), if_pos (nI_le (Nat.le_refl _) (by omega))]
/-- the best song among the first s: how many at most are left, which song -/
def eb_as (cn : Nat) (cw : Nat → Nat) : Nat → Option (Nat × Nat)
  | 0 => none
  | s + 1 => if cn < 2 then eb_as cn cw s else match eb_as cn cw s with
    | none => some (max (cw s) (cn - cw s), s)
    | some z => if z.1 ≤ max (cw s) (cn - cw s) then some z else some (max (cw s) (cn - cw s), s)
theorem eb_as_le {cn : Nat} {cw : Nat → Nat} (hc : cn ≤ 64) (hw : ∀ s, cw s ≤ 64) : ∀ s z, eb_as cn cw s = some z → z.1 ≤ 64
  | 0, z, h => by cases h
  | s + 1, z, h => by
    have h : (if cn < 2 then eb_as cn cw s else match eb_as cn cw s with
      | none => some (max (cw s) (cn - cw s), s)
      | some z => if z.1 ≤ max (cw s) (cn - cw s) then some z else some (max (cw s) (cn - cw s), s)) = some z := h
    have := hw s
    by_cases c : cn < 2
    · rw [if_pos c] at h
      exact eb_as_le hc hw s z h
    · rw [if_neg c] at h
      cases e : eb_as cn cw s with
      | none =>
        rw [e] at h
        cases h
        show max (cw s) (cn - cw s) ≤ 64
        omega
      | some y =>
        rw [e] at h
        have iy := eb_as_le hc hw s y e
        dsimp only at h
        by_cases q : y.1 ≤ max (cw s) (cn - cw s)
        · rw [if_pos q] at h
          cases h
          exact iy
        · rw [if_neg q] at h
          cases h
          show max (cw s) (cn - cw s) ≤ 64
          omega
def eb_a1 (x : Int32) (o : Option (Nat × Nat)) : Int32 := match o with | none => x | some z => nI z.1
def eb_a2 (o : Option (Nat × Nat)) : Int32 := match o with | none => -1 | some z => nI z.2
theorem eb_askA (h : eb_SA m tu tb n) (hn : n ≤ 6) (hL : L ≤ 40) (h2 : L % 2 = 0) : ea_loop (f_X11_ask_s18 (nI L)) ea_fuel (65, -1, 0, m) = some (eb_a2 (eb_as (eb_cn (eb_fit tu tb n L) (2 ^ n)) (fun s => eb_cn (fun i => eb_fit tu tb n L i && eb_sng tu n s i) (2 ^ n)) 6), m) := by
  have hN : 2 ^ n ≤ 64 := Nat.pow_le_pow_right (n := 2) (j := 6) (by decide) hn
  obtain ⟨cn, ecn⟩ : ∃ cn, cn = eb_cn (eb_fit tu tb n L) (2 ^ n) := ⟨_, rfl⟩
  obtain ⟨cw, ecw⟩ : ∃ cw : Nat → Nat, cw = fun s => eb_cn (fun i => eb_fit tu tb n L i && eb_sng tu n s i) (2 ^ n) := ⟨_, rfl⟩
  rw [← ecn, ← ecw]
  have hc : cn ≤ 64 := by rw [ecn]; exact Nat.le_trans (eb_cn_le _ _) hN
  have hw : ∀ s, cw s ≤ 64 := fun s => by rw [ecw]; exact Nat.le_trans (eb_cn_le _ _) hN
  have w1 : ∀ s, f_X11_setsThatSing (nI s) (nI L) 1 m = some (nI (cw s), m) := fun s => by
    rw [ecw]
    exact eb_stsA h hn hL h2 s true
  have w0 : ∀ s, f_X11_setsThatSing (nI s) (nI L) 0 m = some (nI (cn - cw s), m) := fun s => by
    have a := eb_stsA h hn hL h2 s false
    have b := eb_cn_add (eb_fit tu tb n L) (eb_sng tu n s) (2 ^ n)
    have e : eb_cn (fun i => eb_fit tu tb n L i && !eb_sng tu n s i) (2 ^ n) = cn - cw s := by
      rw [ecn, ecw]
      dsimp only
      omega
    rw [← e]
    exact a
  have hle : ∀ s, cw s ≤ cn := fun s => by
    have b := eb_cn_add (eb_fit tu tb n L) (eb_sng tu n s) (2 ^ n)
    rw [ecn, ecw]
    dsimp only
    omega
  refine eb_loopF 6 (fun s => (eb_a1 65 (eb_as cn cw s), eb_a2 (eb_as cn cw s), nI s, m)) _ rfl (fun s hs => ?_) ?_ (by decide)
  · have nx : eb_as cn cw (s + 1) = if cn < 2 then eb_as cn cw s else match eb_as cn cw s with
      | none => some (max (cw s) (cn - cw s), s)
      | some z => if z.1 ≤ max (cw s) (cn - cw s) then some z else some (max (cw s) (cn - cw s), s) := rfl
    have i1 := hw s
    have i2 := hle s
    unfold f_X11_ask_s18 f_X11_ask_j76
    dsimp only
    rw [if_neg (show ¬ (6 : Int32) ≤ nI s from nI_ge (b := 6) hs (by decide)), w1, eb_clR, w0, eb_clR, nI_add, show cw s + (cn - cw s) = cn by omega, nI_1, eb_maxN (by omega) (by omega), eb_bdR, eb_bdR, nx]
    by_cases c : cn < 2
    · rw [if_pos c, if_pos (show nI cn < 2 from nI_lt (b := 2) c (by decide))]
    · rw [if_neg c, if_neg (show ¬ nI cn < 2 from nI_nlt (b := 2) (by omega) (by omega))]
      cases e : eb_as cn cw s with
      | none =>
        rw [if_neg (show ¬ eb_a1 65 none ≤ nI (max (cw s) (cn - cw s)) from nI_ge (b := 65) (by omega) (by decide))]
        rfl
      | some z =>
        have iz := eb_as_le hc hw s z e
        show (if nI z.1 ≤ nI (max (cw s) (cn - cw s)) then _ else _) = some (Sum.inl (eb_a1 65 (if z.1 ≤ max (cw s) (cn - cw s) then some z else some (max (cw s) (cn - cw s), s)), eb_a2 (if z.1 ≤ max (cw s) (cn - cw s) then some z else some (max (cw s) (cn - cw s), s)), nI (s + 1), m))
        by_cases q : z.1 ≤ max (cw s) (cn - cw s)
        · rw [if_pos q, if_pos (nI_le q (by omega))]
        · rw [if_neg q, if_neg (nI_ge (by omega) (by omega))]
          rfl
  · rfl
theorem eb_askM (h : eb_SM m tu tb n L) (hn : n ≤ 6) (hL : L ≤ 40) (h2 : L % 2 = 0) (hs : eb_so tb (L / 2) = true) : ea_loop f_X12_ask_s34 ea_fuel (-1, 999, 0, m) = some (eb_a2 (eb_as (eb_cn (eb_fit tu tb n L) (2 ^ n)) (fun s => eb_cn (fun i => eb_fit tu tb n L i && eb_sng tu n s i) (2 ^ n)) 6), m) := by
  have hN : 2 ^ n ≤ 64 := Nat.pow_le_pow_right (n := 2) (j := 6) (by decide) hn
  have key := eb_askI h hn hL h2 hs
  obtain ⟨cn, ecn⟩ : ∃ cn, cn = eb_cn (eb_fit tu tb n L) (2 ^ n) := ⟨_, rfl⟩
  obtain ⟨cw, ecw⟩ : ∃ cw : Nat → Nat, ∀ s, cw s = eb_cn (fun i => eb_fit tu tb n L i && eb_sng tu n s i) (2 ^ n) := ⟨_, fun _ => rfl⟩
  have ecw' : (fun s => eb_cn (fun i => eb_fit tu tb n L i && eb_sng tu n s i) (2 ^ n)) = cw := funext fun s => (ecw s).symm
  rw [← ecn, ecw']
  rw [← ecn] at key
  have hc : cn ≤ 64 := by rw [ecn]; exact Nat.le_trans (eb_cn_le _ _) hN
  have hw : ∀ s, cw s ≤ 64 := fun s => by rw [ecw]; exact Nat.le_trans (eb_cn_le _ _) hN
  have hle : ∀ s, cw s ≤ cn := fun s => by
    have b := eb_cn_add (eb_fit tu tb n L) (eb_sng tu n s) (2 ^ n)
    rw [ecn, ecw]
    omega
  refine eb_loopF 6 (fun s => (eb_a2 (eb_as cn cw s), eb_a1 999 (eb_as cn cw s), nI s, m)) _ rfl (fun s hs => ?_) ?_ (by decide)
  · have nx : eb_as cn cw (s + 1) = if cn < 2 then eb_as cn cw s else match eb_as cn cw s with
      | none => some (max (cw s) (cn - cw s), s)
      | some z => if z.1 ≤ max (cw s) (cn - cw s) then some z else some (max (cw s) (cn - cw s), s) := rfl
    have i1 := hw s
    have i2 := hle s
    unfold f_X12_ask_s34 f_X12_ask_j128
    dsimp only
    rw [if_neg (show ¬ (6 : Int32) ≤ nI s from nI_ge (b := 6) hs (by decide)), key, eb_obR, ← ecw, pk_sub i2, eb_maxN (by omega) (by omega), eb_bdR, nI_1, nx]
    by_cases c : cn < 2
    · rw [if_pos c, if_pos (show nI cn < 2 from nI_lt (b := 2) c (by decide))]
    · rw [if_neg c, if_neg (show ¬ nI cn < 2 from nI_nlt (b := 2) (by omega) (by omega))]
      cases e : eb_as cn cw s with
      | none =>
        rw [if_pos (show nI (max (cw s) (cn - cw s)) < eb_a1 999 none from nI_lt (b := 999) (by omega) (by decide))]
        rfl
      | some z =>
        have iz := eb_as_le hc hw s z e
        show (if nI (max (cw s) (cn - cw s)) < nI z.1 then _ else _) = some (Sum.inl (eb_a2 (if z.1 ≤ max (cw s) (cn - cw s) then some z else some (max (cw s) (cn - cw s), s)), eb_a1 999 (if z.1 ≤ max (cw s) (cn - cw s) then some z else some (max (cw s) (cn - cw s), s)), nI (s + 1), m))
        by_cases q : z.1 ≤ max (cw s) (cn - cw s)
        · rw [if_pos q, if_neg (nI_nlt q (by omega))]
        · rw [if_neg q, if_pos (nI_lt (by omega) (by omega))]
          rfl
  · rfl
end SONGSB
