section ACTS
variable {m : ea_M}
theorem eb_forget (m : ea_M) : f_X11_forgetFates m = some (0, ea_st m 0 18 0) := rfl
/-- an act: the class remembers and does A, the reference remembers and does B; c', w' what becomes of court and world, fk whether the fates are still known -/
theorem eb_actP {x : Option ea_O} {f : ea_M → Option (Int32 × ea_M)} {g : Nat → ea_M → Option (Int32 × ea_M)} {A : ea_M → Option ea_O} {B : ea_M → Option (Int32 × ea_M)} (v : Int32) (c' : Nat → Nat → Int32) (w' : Nat → Int32) (fk : Int32) (h : eb_I m)
    (hx : x = ea_cl (f_X11_remember m) fun _ z => A z)
    (hf : ∀ m1 : ea_M, m1 273 = m 273 → f m1 = ea_cl (f_X12_remembers (ea_st m1 272 0 0)) fun _ y => B y)
    (hA : ∀ z : ea_M, (∀ a, 1 ≤ a → a < 86 ∨ 254 ≤ a → z a = m a) → (∀ i, i ≠ 13 → i ≠ 14 → z 0 i = m 0 i) → eb_W (A z) (fun o => o.1 = 0 ∧ o.2.1 = v ∧ (∀ a i, ¬ eb_W1 a i → o.2.2 a i = z a i) ∧ (∀ i j, i < 14 → o.2.2 (2 + i) j = c' i j) ∧ o.2.2 0 18 = fk))
    (hB : ∀ y : ea_M, y 273 = m 273 → eb_W (B y) (fun t => t.1 = v ∧ (∀ a i, ¬ eb_W2 a i → t.2 a i = y a i) ∧ t.2 272 0 = y 272 0 ∧ t.2 287 0 = y 287 0 ∧ t.2 273 = w'))
    (hC : eb_C c' w') (hF : fk = 0 ∨ (fk = m 0 18 ∧ w' 0 = m 273 0 ∧ ∀ j, eb_rel j → w' j = m 273 j)) : eb_P eb_I (ea_cx x (fun r2 m1 => ea_bd (ea_st m1 287 0 r2) fun m3 => some (0, m3)) g) f := by
  obtain ⟨q, xx, hq, hxx, e13, e7, e14, hpast⟩ := h.1.2.2.1
  subst hx
  refine eb_Lw (fun u m1 => u = v ∧ ∃ z : ea_M, ((∀ i j, j < eb_len i → z (86 + 14 * xx + i) j = m (2 + i) j) ∧ (∀ b, b ≠ 0 → ¬ (86 + 14 * xx ≤ b ∧ b < 100 + 14 * xx) → z b = m b) ∧ z 0 13 = nI (min 12 (q + 1)) ∧ z 0 14 = nI ((xx + 1) % 12) ∧ ∀ i, i ≠ 13 → i ≠ 14 → z 0 i = m 0 i) ∧ (∀ a i, ¬ eb_W1 a i → m1 a i = z a i) ∧ (∀ i j, i < 14 → m1 (2 + i) j = c' i j) ∧ m1 0 18 = fk) ?_ ?_
  · refine eb_cl (eb_rememberA hxx hq e14 e13) fun r1 z hz => ?_
    dsimp only at hz
    exact eb_mono (hA z (fun a h1 h2 => hz.2.1 a (by omega) (by omega)) hz.2.2.2.2) fun o ho => ⟨ho.1, ho.2.1, z, hz, ho.2.2.1, ho.2.2.2⟩
  · rintro u m1 ⟨hu, z, hz, k1, k2, k3⟩
    subst hu
    have z2 : ∀ b, 1 ≤ b → b ≤ 15 ∨ 254 ≤ b → z b = m b := fun b h1 h2 => hz.2.1 b (by omega) (by omega)
    have e1 : ∀ a i, 254 ≤ a → a ≠ 287 → m1 a i = m a i := fun a i h1 h2 => by
      rw [k1 a i (by unfold eb_W1; omega), z2 a (by omega) (by omega)]
    rw [hf _ (funext fun i => by rw [eb_stA _ _ _ (by decide)]; exact e1 273 i (by decide) (by decide))]
    refine eb_cl (eb_remembersM (q := q) hq ?_) fun r2 y hy => ?_
    · rw [eb_stI _ _ _ (by decide), eb_stA _ _ _ (by decide), e1 272 7 (by decide) (by decide)]
      exact e7
    dsimp only at hy
    obtain ⟨y1, y2, y3, y4⟩ := hy
    have ey : ∀ a, a ≠ 272 → a ≠ 277 → y a = ea_st m1 287 0 u a := fun a q1 q2 => by rw [y1 a q1 q2, eb_stA _ _ _ q1]
    have e273 : y 273 = m 273 := by
      rw [ey 273 (by decide) (by decide), eb_stA _ _ _ (by decide)]
      exact funext fun i => e1 273 i (by decide) (by decide)
    refine eb_mono (hB y e273) fun t ht => ?_
    obtain ⟨t1, t2, t3, t4, t5⟩ := ht
    have ec : eb_C (eb_ct t.2 2) (t.2 273) := by
      rw [t5]
      refine eb_C_cg (fun i j hj => ?_) (fun j _ => rfl) hC
      have := eb_lenI hj
      show t.2 (2 + i) j = c' i j
      rw [t2 _ _ (by unfold eb_W2; omega), ey _ (by omega) (by omega), eb_stA _ _ _ (by omega)]
      exact k2 i j this
    have e18 : t.2 0 18 = fk := by
      rw [t2 _ _ (by unfold eb_W2; omega), ey _ (by omega) (by omega), eb_stA _ _ _ (by omega)]
      exact k3
    refine ⟨?_, ?_, eb_fin (z := z) (y := y) (m1 := ea_st m1 287 0 u) h hxx hq hpast hz (fun a i hw => ?_) ⟨ey, ?_, y3, ?_⟩ t2 ec ?_⟩
    · rw [t3, y2 0 (by decide), eb_st]
    · rw [t4, t1, ey 287 (by decide) (by decide), eb_st]
    · rw [eb_stA _ _ _ (by unfold eb_W1 at hw; omega)]
      exact k1 a i hw
    · intro i hi h0
      rw [y2 i hi, eb_stI _ _ _ h0]
    · intro j i hj hi
      rw [y4 j i hj hi, eb_stA (ea_st m1 287 0 u) 0 0 (show 273 ≠ 272 by decide), eb_stA (ea_st m1 287 0 u) 0 0 (show 277 ≠ 272 by decide)]
    · rcases hF with hF | ⟨f1, f2, f3⟩
      · exact Or.inl (e18.trans hF)
      · have h2 := h.2
        unfold eb_fa at h2 ⊢
        rw [e18, f1, t5, eb_b_cg f2]
        rcases h2 with z0 | ⟨z0, z1⟩
        · exact Or.inl z0
        · refine Or.inr ⟨z0, fun b hb => ?_⟩
          have h6 : eb_b (m 273) ≤ 6 := h.1.1.2.1.1.2
          refine eb_FT_cg f3 (eb_lv_of h.1.2.1) (by omega) (fun i j hi => ?_) (z1 b hb)
          show t.2 (254 + 3 * b + i) j = m (254 + 3 * b + i) j
          rw [t2 _ _ (by unfold eb_W2; omega), ey _ (by omega) (by omega), eb_stA _ _ _ (by omega)]
          exact e1 _ _ (by omega) (by omega)
/-- the first rows of a court with one slot written -/
def eb_cs (m : ea_M) (r k : Nat) (p : Int32) : Nat → Nat → Int32 := fun i j => if i = r ∧ j = k then p else m (2 + i) j
def eb_ws (w : Nat → Int32) (k : Nat) (p : Int32) : Nat → Int32 := fun j => if j = k then p else w j
theorem eb_csN (m : ea_M) {r k i j : Nat} (p : Int32) (h : ¬ (i = r ∧ j = k)) : eb_cs m r k p i j = eb_ct m 2 i j := if_neg h
theorem eb_csT (m : ea_M) (r k : Nat) (p : Int32) : eb_cs m r k p r k = p := if_pos ⟨rfl, rfl⟩
theorem eb_wsN (w : Nat → Int32) {k j : Nat} (p : Int32) (h : j ≠ k) : eb_ws w k p j = w j := if_neg h
theorem eb_wsT (w : Nat → Int32) (k : Nat) (p : Int32) : eb_ws w k p k = p := if_pos rfl
theorem eb_stw (y : ea_M) (k : Nat) (p : Int32) : ea_st y 273 k p 273 = eb_ws (y 273) k p := by
  funext j
  unfold eb_ws
  rw [eb_sts]
  by_cases h : j = k
  · rw [if_pos ⟨rfl, h⟩, if_pos h]
  · rw [if_neg (fun z => h z.2), if_neg h]
theorem eb_p_hour (p : Int32) (h : eb_I m) : eb_P eb_I (f_L_hour p m) (f_X12_hour p) := by
  by_cases hp : 0 ≤ p ∧ p ≤ 23
  · obtain ⟨n, hn, en⟩ := nI_of2 (M := 23) (n := 23) (by decide) (Int32.not_lt.mpr hp.1) hp.2
    unfold f_L_hour
    refine eb_actP (A := fun z => ea_bd (z 2 4) fun x5 => ea_bd (ea_st z 2 4 p) fun m6 => ea_cl (f_X11_forgetFates m6) fun r8 m7 => some (0, x5, m7)) (B := fun y => ea_bd (y 273 6) fun x10 => ea_bd (ea_st y 273 6 p) fun m11 => some (x10, m11)) (m 273 6) (eb_cs m 0 4 p) (eb_ws (m 273) 6 p) 0 h ?_ (fun m1 e1 => ?_) (fun z z1 z2 => ?_) (fun y e => ?_) ?_ (Or.inl rfl)
    · unfold f_X11_hour
      rw [eb_needWithin, if_pos hp, eb_cx0]
    · simp only [f_X12_hour, eb_bdR, eb_inW, if_pos hp, eb_clR, if_neg eb_ne10, f_X12_hour_j21, eb_throwsIf0, if_true]
    · refine eb_bd (eb_bd ?_)
      rw [eb_forget, eb_clR]
      refine eb_some ⟨rfl, ?_, fun a i hw => ?_, fun i j hi => ?_, ?_⟩
      · show z 2 4 = _
        rw [z1 2 (by decide) (by omega)]
        exact h.1.1.1.2.2.2.2.1
      · show ea_st (ea_st z 2 4 p) 0 18 0 a i = _
        unfold eb_W1 at hw
        rw [eb_sts, if_neg (by omega), eb_stA _ _ _ (by omega)]
      · show ea_st (ea_st z 2 4 p) 0 18 0 (2 + i) j = _
        unfold eb_cs
        rw [eb_stA _ _ _ (by omega), eb_sts, z1 _ (by omega) (by omega)]
        by_cases hh : i = 0 ∧ j = 4
        · rw [if_pos hh, if_pos ⟨by omega, hh.2⟩]
        · rw [if_neg hh, if_neg (by omega)]
      · exact eb_st (ea_st z 2 4 p) 0 18 0
    · refine eb_bd (eb_bd (eb_some ⟨by show y 273 6 = _; rw [e], fun a i hw => ?_, ?_, ?_, ?_⟩))
      · show ea_st y 273 6 p a i = _
        unfold eb_W2 at hw
        rw [eb_sts, if_neg (by omega)]
      · exact congrFun (eb_stA y 6 p (show 272 ≠ 273 by decide)) 0
      · exact congrFun (eb_stA y 6 p (show 287 ≠ 273 by decide)) 0
      · rw [← e]
        exact eb_stw y 6 p
    · have w' : ∀ j, j ≠ 6 → eb_ws (m 273) 6 p j = m 273 j := fun j hj => eb_wsN _ _ hj
      have c' : ∀ i j, ¬ (i = 0 ∧ j = 4) → eb_cs m 0 4 p i j = eb_ct m 2 i j := fun i j hj => eb_csN _ _ hj
      obtain ⟨⟨a1, a2, a3, a4, a5, a6, a7, a8, a9, a10, a11, a12⟩, ⟨b1, b2, b3, b4, b5, b6, b7, b8, b9, b10, b11⟩, h3, h4, h5, h6, h7⟩ := h.1.1
      refine ⟨?_, ?_, eb_C3_cg (fun j _ => c' 1 j (by omega)) (fun j _ _ => w' j (by omega)) h3, eb_C4_cg (fun i j _ _ _ => c' i j (by omega)) (w' 0 (by decide)) (fun j _ _ => w' j (by omega)) b1.2 h4, eb_C5_cg (fun j _ => c' 7 j (by omega)) (w' 0 (by decide)) (fun j _ _ => w' j (by omega)) h5, eb_C6_cg (fun i j _ _ _ => c' i j (by omega)) (w' 0 (by decide)) (w' 1 (by decide)) (w' 2 (by decide)) (fun j _ _ => w' j (by omega)) b3.2 h6, eb_C7_cg (c' 12 1 (by omega)) (fun j _ => c' 13 j (by omega)) (w' 11 (by decide)) (fun j _ _ => w' j (by omega)) b11 h7⟩
      · exact ⟨a1, a2, a3, a4, rfl, a6, a7, a8, a9, a10, a11, a12⟩
      · exact ⟨b1, b2, b3, b4, b5, ⟨n, hn, en⟩, b7, b8, b9, b10, b11⟩
  · refine eb_Pk1 h (k := 1) (v := 0) ?_ ?_ (by decide)
    · simp only [f_L_hour, f_X11_hour, eb_needWithin, hp, if_false, eb_cx2]
      rfl
    · simp only [f_X12_hour, eb_bdR, eb_inW, eb_clR, hp, if_false, if_true, f_X12_hour_j21, eb_throwsIf1]
      rfl
theorem eb_p_blow (p q : Int32) (h : eb_I m) : eb_P eb_I (f_L_blow p q m) (f_X12_blow p q) := by
  rcases eb_ix (p := p) (x := nI 13) rfl (by omega) with hp | ⟨l, hl, rfl⟩
  · refine eb_Pk1 h (k := 1) (v := 0) ?_ ?_ (by decide)
    · simp only [f_L_blow, f_X11_blow, eb_needLevel, hp, if_false, eb_cx1, if_true]
    · simp only [f_X12_blow, eb_bdR, eb_noLevel, eb_clR, hp, if_false, eb_throwsIf1]
      rfl
  · have hp := eb_ixT hl (show 13 < 2 ^ 31 by omega)
    by_cases hq : -3 ≤ q ∧ q ≤ 3
    · have e13 : (13 : Int32) + nI l = nI (13 + l) := nI_add 13 l
      unfold f_L_blow
      refine eb_actP (A := fun z => ea_g (nI l) 13 (ea_bd (z 3 (Int32.toNatClampNeg (nI l))) fun x7 => ea_g (nI l) 13 (ea_bd (ea_st z 3 (Int32.toNatClampNeg (nI l)) q) fun m8 => ea_cl (f_X11_forgetFates m8) fun r10 m9 => some (0, x7, m9)))) (B := fun y => ea_g (13 + nI l) 2180 (ea_bd (y 273 (Int32.toNatClampNeg (13 + nI l))) fun x14 => ea_g (13 + nI l) 2180 (ea_bd (ea_st y 273 (Int32.toNatClampNeg (13 + nI l)) q) fun m15 => some (x14, m15)))) (m 273 (13 + l)) (eb_cs m 1 l q) (eb_ws (m 273) (13 + l) q) 0 h ?_ (fun m1 e1 => ?_) (fun z z1 z2 => ?_) (fun y e => ?_) ?_ (Or.inl rfl)
      · unfold f_X11_blow
        rw [eb_needLevel, if_pos hp, eb_cx0, eb_needWithin, if_pos hq, eb_cx0]
      · simp only [f_X12_blow, eb_bdR, eb_noLevel, eb_inW, if_pos hp, if_pos hq, eb_clR, if_neg eb_ne10, f_X12_blow_j33, eb_throwsIf0, if_true]
      · rw [eb_gN hl (by decide), eb_bdR, eb_gN hl (by decide), eb_bdR, nI_clamp (by omega), eb_forget, eb_clR]
        refine eb_some ⟨rfl, ?_, fun a i hw => ?_, fun i j hi => ?_, ?_⟩
        · show z 3 l = _
          rw [z1 3 (by decide) (by omega)]
          exact h.1.1.2.2.1 l hl
        · show ea_st (ea_st z 3 l q) 0 18 0 a i = _
          unfold eb_W1 at hw
          rw [eb_sts, if_neg (by omega), eb_stA _ _ _ (by omega)]
        · show ea_st (ea_st z 3 l q) 0 18 0 (2 + i) j = _
          unfold eb_cs
          rw [eb_stA _ _ _ (by omega), eb_sts, z1 _ (by omega) (by omega)]
          by_cases hh : i = 1 ∧ j = l
          · rw [if_pos hh, if_pos ⟨by omega, hh.2⟩]
          · rw [if_neg hh, if_neg (by omega)]
        · exact eb_st (ea_st z 3 l q) 0 18 0
      · rw [e13, eb_gN (show 13 + l < 2180 by omega) (by decide), eb_bdR, eb_gN (show 13 + l < 2180 by omega) (by decide), eb_bdR, nI_clamp (by omega)]
        refine eb_some ⟨by show y 273 (13 + l) = _; rw [e], fun a i hw => ?_, ?_, ?_, ?_⟩
        · show ea_st y 273 (13 + l) q a i = _
          unfold eb_W2 at hw
          rw [eb_sts, if_neg (by omega)]
        · exact congrFun (eb_stA y (13 + l) q (show 272 ≠ 273 by decide)) 0
        · exact congrFun (eb_stA y (13 + l) q (show 287 ≠ 273 by decide)) 0
        · rw [← e]
          exact eb_stw y (13 + l) q
      · have w' : ∀ j, j ≠ 13 + l → eb_ws (m 273) (13 + l) q j = m 273 j := fun j hj => eb_wsN _ _ hj
        have c' : ∀ i j, ¬ (i = 1 ∧ j = l) → eb_cs m 1 l q i j = eb_ct m 2 i j := fun i j hj => eb_csN _ _ hj
        obtain ⟨⟨a1, a2, a3, a4, a5, a6, a7, a8, a9, a10, a11, a12⟩, b, h3, h4, h5, h6, h7⟩ := h.1.1
        refine ⟨?_, eb_C2_cg (fun j _ => w' j (by omega)) b, fun j hj => ?_, eb_C4_cg (fun i j _ _ _ => c' i j (by omega)) (w' 0 (by omega)) (fun j _ _ => w' j (by omega)) b.1.2 h4, eb_C5_cg (fun j _ => c' 7 j (by omega)) (w' 0 (by omega)) (fun j _ _ => w' j (by omega)) h5, eb_C6_cg (fun i j _ _ _ => c' i j (by omega)) (w' 0 (by omega)) (w' 1 (by omega)) (w' 2 (by omega)) (fun j _ _ => w' j (by omega)) b.2.2.1.2 h6, eb_C7_cg (c' 12 1 (by omega)) (fun j _ => c' 13 j (by omega)) (w' 11 (by omega)) (fun j _ _ => w' j (by omega)) b.2.2.2.2.2.2.2.2.2.2 h7⟩
        · unfold eb_C1
          rw [w' 0 (by omega), w' 1 (by omega), w' 2 (by omega), w' 3 (by omega), w' 5 (by omega), w' 6 (by omega), w' 7 (by omega), w' 8 (by omega), w' 9 (by omega), w' 10 (by omega), w' 11 (by omega), w' 12 (by omega)]
          exact ⟨a1, a2, a3, a4, a5, a6, a7, a8, a9, a10, a11, a12⟩
        · by_cases q1 : j = l
          · subst q1
            rw [eb_csT, eb_wsT]
          · rw [c' 1 j (by omega), w' (13 + j) (by omega)]
            exact h3 j hj
    · refine eb_Pk1 h (k := 2) (v := 0) ?_ ?_ (by decide)
      · simp only [f_L_blow, f_X11_blow, eb_needLevel, hp, and_self, if_true, eb_cx0, eb_needWithin, hq, if_false, eb_cx2]
        rfl
      · simp only [f_X12_blow, eb_bdR, eb_noLevel, eb_clR, hp, and_self, if_true, eb_throwsIf0, eb_inW, hq, if_false, f_X12_blow_j33, eb_throwsIf1]
        rfl
end ACTS
