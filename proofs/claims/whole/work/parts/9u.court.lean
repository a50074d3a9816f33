section COURTP
variable {c : Nat → Nat} {L p n : Nat} {m m0 m' : ea_M} {w w' : Nat → Int32} {cc : Nat → Nat → Int32}
/-- a text's end: where it is wrong lies in the text; what it leaves alone is left alone -/
def et_ok (L : Nat) (w : Nat → Int32) (o : et_Out) : Prop := match o with
  | .inl f => f ≤ L
  | .inr q => q.1 ≤ L ∧ ∀ j, (j = 3 ∨ j = 4 ∨ 482 ≤ j) → q.2 j = w j
theorem et_okB {α : Type} {x : Option α} {f : Nat} {k : α → et_Out} (h0 : f ≤ L) (h1 : ∀ v, x = some v → et_ok L w (k v)) : et_ok L w (et_B x f k) := by
  cases hx : x with
  | none => exact h0
  | some v => exact h1 v hx
theorem et_okI {b : Bool} {f : Nat} {k : et_Out} (h0 : f ≤ L) (h1 : et_ok L w k) : et_ok L w (et_I b f k) := by
  cases b with
  | false => exact h0
  | true => exact h1
theorem et_okR {q : Nat} (h0 : q ≤ L) (h1 : ∀ j, (j = 3 ∨ j = 4 ∨ 482 ≤ j) → w' j = w j) : et_ok L w (.inr (q, w')) := ⟨h0, h1⟩
theorem et_sbL (hL : L ≤ 400) (hp : p ≤ L) : et_sb c L p ≤ L := (et_sb_spec hL hp).2.1
theorem et_teL (hL : L ≤ 400) (hp : p ≤ L) : et_te c L p ≤ L := (et_te_le hL hp).2.1
theorem et_cl_ok (hL : L ≤ 400) (hp : p ≤ L) (hC : eb_C cc w) : et_ok L w (et_cl c L p w) := by
  have h1 := et_teL (c := c) hL hp
  have h2 := et_teL (c := c) hL h1
  have h3 := et_teL (c := c) hL h2
  have h4 := et_teL (c := c) hL h3
  have h5 := et_teL (c := c) hL h4
  have h6 := et_teL (c := c) hL h5
  have h7 := et_teL (c := c) hL h6
  have h8 := et_teL (c := c) hL h7
  have h9 := et_teL (c := c) hL h8
  have hb6 : eb_b w ≤ 6 := hC.2.1.1.2
  have s0 := et_sbL (c := c) hL hp
  unfold et_cl
  split
  · split
    · unfold et_oBird
      refine et_okI (et_sbL hL h1) (et_okB (et_sbL hL h2) fun x0 _ => et_okI (et_sbL hL h3) (et_okB (et_sbL hL h4) fun x1 _ => et_okI (et_sbL hL h5) (et_okB (et_sbL hL h6) fun x2 _ => et_okI (et_sbL hL h7) (et_okB (et_sbL hL h8) fun x3 _ => et_okR h9 fun j hj => ?_))))
      unfold et_wB
      rw [et_u (by omega), et_u (by omega), et_u (by omega), et_u (by omega), et_u (by omega)]
    · exact s0
  · split
    · split
      · unfold et_oCounsel
        split
        · refine et_okR h2 fun j hj => ?_
          unfold et_wC
          rw [if_neg (by omega), if_neg (by omega)]
        · exact et_sbL hL h1
      · exact s0
    · split
      · split
        · unfold et_oCase
          refine et_okB (et_sbL hL h1) fun f _ => et_okB (et_sbL hL h2) fun s _ => ?_
          split
          · exact et_sbL hL h2
          · refine et_okI (et_sbL hL h3) (et_okB (et_sbL hL h4) fun x _ => et_okR h5 fun j hj => ?_)
            unfold et_wK
            rw [et_u (by omega), et_u (by omega), et_u (by omega), et_u (by omega), et_u (by omega)]
        · exact s0
      · split
        · unfold et_oTower
          refine et_okB (et_sbL hL h1) fun v _ => et_okI (et_sbL hL h2) (et_okB (et_sbL hL h3) fun u _ => et_okR h4 fun j hj => ?_)
          rw [et_u (by omega), et_u (by omega)]
        · split
          · unfold et_oYard
            refine et_okB (et_sbL hL h1) fun v _ => et_okI (et_sbL hL h2) (et_okB (et_sbL hL h3) fun u _ => et_okR h4 fun j hj => ?_)
            rw [et_u (by omega), et_u (by omega)]
          · split
            · unfold et_oWind
              refine et_okB (et_sbL hL h1) fun v hv => ?_
              obtain ⟨v1, _, v3, _⟩ := et_num_some hL h1 hv
              have v5 := et_leN v1 (by decide) (show nI v ≤ nI 12 from v3)
              split
              · refine et_okB (et_sbL hL h3) fun u _ => et_okR h4 fun j hj => ?_
                rw [et_u (by omega)]
              · refine et_okI (et_sbL hL h2) (et_okB (et_sbL hL h3) fun u _ => et_okR h4 fun j hj => ?_)
                rw [et_u (by omega)]
            · unfold et_oHour
              refine et_okI s0 (et_okB (et_sbL hL h1) fun v _ => et_okR h2 fun j hj => ?_)
              rw [et_u (by omega)]
theorem et_ls_ok (hL : L ≤ 400) (hc : ∀ j, j < 400 → c j < 256) : ∀ (r p : Nat) (w : Nat → Int32) (cc : Nat → Nat → Int32), p ≤ L → eb_C cc w → et_ok L w (et_ls c L (et_cl c L) r p w)
  | 0, p, w, cc, hp, hC => et_sbL hL hp
  | r + 1, p, w, cc, hp, hC => by
    have hk := et_cl_ok (c := c) hL hp hC
    cases ho : et_cl c L p w with
    | inl f =>
      rw [et_ls0 ho]
      rw [ho] at hk
      exact hk
    | inr q =>
      rw [et_ls1 ho]
      rw [ho] at hk
      split
      · exact hk
      · split
        · obtain ⟨cc', hC'⟩ := et_cl_C hL hp hc hC ho
          have h2 := et_ls_ok hL hc r (et_te c L q.1) q.2 cc' (et_teL hL hk.1) hC'
          generalize et_ls c L (et_cl c L) r (et_te c L q.1) q.2 = o at h2 ⊢
          cases o with
          | inl f => exact h2
          | inr q2 => exact ⟨h2.1, fun j hj => (h2.2 j hj).trans (hk.2 j hj)⟩
        · exact et_sbL hL hk.1
theorem et_all_ok (hL : L ≤ 400) (hc : ∀ j, j < 400 → c j < 256) (hC : eb_C cc w) : et_ok L w (et_all c L w) := by
  unfold et_all
  split
  · exact ⟨Nat.zero_le _, fun _ _ => rfl⟩
  · exact et_ls_ok hL hc _ _ _ cc (Nat.zero_le _) hC
theorem et_Tof (h : ∀ j, j < 400 → eb_tb (m 1 j) (m 278 j)) : ∃ c, et_T1 c m ∧ et_T2 c m := by
  have k : ∀ j, j < 400 → (m 1 j).toNatClampNeg < 256 ∧ m 1 j = nI (m 1 j).toNatClampNeg ∧ ((m 1 j).toNatClampNeg < 128 → m 278 j = nI (m 1 j).toNatClampNeg) ∧ (128 ≤ (m 1 j).toNatClampNeg → m 278 j < 0) := fun j hj => by
    obtain ⟨n, n1, n2, n3, n4⟩ := eb_tbN (h j hj)
    rw [n2, nI_clamp (by omega)]
    exact ⟨n1, rfl, n3, n4⟩
  exact ⟨fun j => (m 1 j).toNatClampNeg, fun j hj => ⟨(k j hj).1, (k j hj).2.1⟩, fun j hj => ⟨(k j hj).1, (k j hj).2.2⟩⟩
/-- a text used up, and no more: the state holds -/
theorem et_I_text (h : eb_I m) (hE : ∀ a i, eb_NJ a i → ¬ (a = 0 ∧ (i = 1 ∨ i = 2)) → ¬ (a = 272 ∧ (i = 9 ∨ i = 14)) → m' a i = m a i) (h18 : m' 0 18 = m 0 18) (hfa : ∀ a i, 254 ≤ a → a ≤ 271 → m' a i = m a i) (h1 : m' 0 1 = 0) (h9 : m' 272 9 = 0) (h2 : m' 0 2 = m' 272 14) : eb_I m' := by
  refine ⟨⟨eb_C_cg (fun i j hj => ?_) (fun j hj => hE 273 j (by unfold eb_NJ; omega) (by omega) (by omega)) h.1.1, eb_LR_m (fun a i q => hE a i (by unfold eb_NJ; omega) (by omega) (by omega)) (hE 273 4 (by unfold eb_NJ; omega) (by omega) (by omega)) (fun j _ q => hE 273 j (by unfold eb_NJ; omega) (by omega) (by omega)) h.1.2.1, eb_pa_cg (fun a i q => hE a i (by unfold eb_NJ; omega) (by omega) (by omega)) h.1.2.2.1, eb_im_cg (fun a i q => hE a i (by unfold eb_NJ; omega) (by omega) (by omega)) h.1.2.2.2.1, ⟨0, by decide, h1, h9, fun j hj => ?_⟩, h2⟩, eb_fa_cg h h18 (fun j hj => hE 273 j (by unfold eb_NJ eb_rel at *; omega) (by omega) (by omega)) (hE 273 0 (by unfold eb_NJ; omega) (by omega) (by omega)) hfa⟩
  · have := eb_lenI hj
    exact hE (2 + i) j (by unfold eb_NJ; omega) (by omega) (by omega)
  · obtain ⟨L, _, _, _, t⟩ := h.1.2.2.2.2.1
    rw [hE 1 j (by unfold eb_NJ; omega) (by omega) (by omega), hE 278 j (by unfold eb_NJ; omega) (by omega) (by omega)]
    exact t j hj
def et_cR (m m1 : ea_M) : Prop := ∀ a i, a ≠ 273 → a ≠ 275 → ¬ (a = 272 ∧ (i = 0 ∨ i = 7 ∨ i = 9 ∨ i = 10 ∨ i = 11 ∨ i = 12 ∨ i = 14 ∨ i = 16)) → m1 a i = m a i
theorem et_courtM {t : Nat} (hL : L ≤ 400) (hT : et_T2 c m) (h9 : m 272 9 = nI L) (hC : eb_C cc (m 273)) (h3 : m 273 3 = nI t) (ht : t ≤ 12) : eb_W (f_X12_court m) (fun y => et_cR m y.2 ∧ y.2 272 9 = 0 ∧ match et_all c L (m 273) with
    | .inl f => y.2 272 0 = 1 ∧ y.2 272 14 = nI f ∧ y.2 272 7 = m 272 7 ∧ ∀ j, j < 1331 → y.2 273 j = m 273 j
    | .inr q => y.2 272 14 = -1 ∧ if t = 12 then y.2 272 0 = 2 ∧ y.2 272 7 = m 272 7 ∧ ∀ j, j < 1331 → y.2 273 j = m 273 j else y.1 = nI (t + 1) ∧ y.2 272 0 = 0 ∧ y.2 272 7 = 0 ∧ y.2 273 = upd q.2 3 (nI (t + 1))) := by
  unfold f_X12_court
  refine eb_bind (eb_cpyL 1331 273 275 0 (by decide) (by decide) m (fun k ms hk hms => ?_) (fun ms => rfl)) fun z hz => ?_
  · unfold f_X12_court_s2
    rw [if_neg (show ¬ (1331 : Int32) ≤ nI k from nI_ge (b := 1331) hk (by decide))]
    dsimp only
    rw [eb_gN (by omega) (by decide), eb_bdR, eb_gN (by omega) (by decide), eb_bdR, nI_clamp (by omega), nI_1, Nat.zero_add]
  obtain ⟨z1, z2⟩ := hz
  have zw : z 273 = m 273 := z1 273 (by decide)
  have zT : et_T2 c z := fun j hj => by rw [z1 278 (by decide)]; exact hT j hj
  have hok := et_all_ok (c := c) (cc := cc) (w := m 273) hL (fun j hj => (hT j hj).1) hC
  obtain ⟨m2, a2, b0, b9, hr⟩ := et_mRead (c := c) (cc := cc) hL zT (by rw [z1 272 (by decide)]; exact h9) (by rw [zw]; exact hC)
  rw [zw] at hr
  refine eb_cl hr fun r4 m3 h4 => ?_
  obtain ⟨f3, h4⟩ := h4
  dsimp only at f3 h4
  have e275 : ∀ j, j < 1331 → m3 275 j = m 273 j := fun j hj => by rw [f3 275 j (by omega) (by decide), a2 275 j (by omega), z2 j, if_pos hj, Nat.zero_add]
  have e3 : ∀ a i, a ≠ 273 → a ≠ 275 → ¬ (a = 272 ∧ (i = 0 ∨ i = 9 ∨ i = 10 ∨ i = 11 ∨ i = 12 ∨ i = 16)) → m3 a i = m a i := fun a i q1 q2 q3 => by rw [f3 a i (by omega) q1, a2 a i (by omega), z1 a q2]
  have e30 : m3 272 0 = 0 := by rw [f3 272 0 (by omega) (by decide)]; exact b0
  have e39 : m3 272 9 = 0 := by rw [f3 272 9 (by omega) (by decide)]; exact b9
  have back : ∀ ms : ea_M, (∀ j, j < 1331 → ms 275 j = m 273 j) → eb_W (f_X12_court_j90 ms) (fun y => (∀ a, a ≠ 273 → y.2 a = ms a) ∧ ∀ j, j < 1331 → y.2 273 j = m 273 j) := fun ms h275 => by
    unfold f_X12_court_j90
    refine eb_bind (eb_cpyL 1331 275 273 0 (by decide) (by decide) ms (fun k mx hk hmx => ?_) (fun mx => rfl)) fun y hy => eb_some ⟨hy.1, fun j hj => ?_⟩
    · unfold f_X12_court_s92
      rw [if_neg (show ¬ (1331 : Int32) ≤ nI k from nI_ge (b := 1331) hk (by decide))]
      dsimp only
      rw [eb_gN (by omega) (by decide), eb_bdR, eb_gN (by omega) (by decide), eb_bdR, nI_clamp (by omega), nI_1, Nat.zero_add]
    · show y 273 j = _
      rw [hy.2 j, if_pos hj, Nat.zero_add, h275 j hj]
  cases ho : et_all c L (m 273) with
  | inl f =>
    rw [ho] at h4
    rw [h4.1, if_neg (by decide), eb_bdR, h4.2]
    unfold f_X12_court_j46 f_X12_court_j59
    rw [eb_bdR, if_neg (by decide), eb_throwsIf1, eb_clR, if_neg (by decide)]
    refine eb_mono (back _ fun j hj => by rw [eb_stA _ _ _ (by decide), eb_stA _ _ _ (by decide)]; exact e275 j hj) fun y hy => ?_
    obtain ⟨y1, y2⟩ := hy
    refine ⟨fun a i q1 q2 q3 => ?_, ?_, ?_, ?_, ?_, y2⟩
    · rw [y1 a q1, eb_sts, if_neg (by omega), eb_sts, if_neg (by omega), e3 a i q1 q2 (by omega)]
    · rw [y1 272 (by decide), eb_stI _ _ _ (by decide), eb_stI _ _ _ (by decide)]; exact e39
    · rw [y1 272 (by decide), eb_st]
    · rw [y1 272 (by decide), eb_stI _ _ _ (by decide), eb_st]
    · rw [y1 272 (by decide), eb_stI _ _ _ (by decide), eb_stI _ _ _ (by decide)]; exact e3 272 7 (by decide) (by decide) (by omega)
  | inr q =>
    rw [ho] at h4 hok
    have w3 : m3 273 3 = nI t := by rw [h4.2, hok.2 3 (Or.inl rfl)]; exact h3
    rw [if_pos h4.1]
    unfold f_X12_court_j46 f_X12_court_j59
    rw [eb_bdR, if_pos h4.1, eb_throwsIf0, eb_clR, if_pos rfl, eb_bdR, eb_stA _ _ _ (by decide), w3]
    by_cases ht12 : t = 12
    · rw [if_pos (show nI t = 12 by rw [ht12]; rfl)]
      unfold f_X12_court_j83
      rw [eb_throwsIf1, eb_clR, if_neg (by decide)]
      refine eb_mono (back _ fun j hj => by rw [eb_stA _ _ _ (by decide), eb_stA _ _ _ (by decide)]; exact e275 j hj) fun y hy => ?_
      obtain ⟨y1, y2⟩ := hy
      refine ⟨fun a i q1 q2 q3 => ?_, ?_, ?_, ?_⟩
      · rw [y1 a q1, eb_sts, if_neg (by omega), eb_sts, if_neg (by omega), e3 a i q1 q2 (by omega)]
      · rw [y1 272 (by decide), eb_stI _ _ _ (by decide), eb_stI _ _ _ (by decide)]; exact e39
      · rw [y1 272 (by decide), eb_stI _ _ _ (by decide), eb_st]
      · rw [if_pos ht12]
        refine ⟨?_, ?_, y2⟩
        · rw [y1 272 (by decide), eb_st]
        · rw [y1 272 (by decide), eb_stI _ _ _ (by decide), eb_stI _ _ _ (by decide)]; exact e3 272 7 (by decide) (by decide) (by omega)
    · rw [if_neg (show ¬ nI t = 12 from (show ¬ nI t = nI 12 by rw [nI_eq (by omega) (by decide)]; exact ht12))]
      unfold f_X12_court_j83
      rw [eb_throwsIf0, eb_clR, if_pos rfl, eb_bdR, eb_stA _ _ _ (by decide), w3, nI_1]
      refine eb_bd (eb_bd (eb_bdV (w := nI (t + 1)) (by rw [eb_stA _ _ _ (by decide), eb_st]) (eb_some ?_)))
      refine ⟨fun a i q1 q2 q3 => ?_, ?_, ?_, ?_⟩
      · dsimp only
        rw [eb_sts, if_neg (by omega), eb_stA _ _ _ q1, eb_sts, if_neg (by omega), e3 a i q1 q2 (by omega)]
      · dsimp only
        rw [eb_stI _ _ _ (by decide), eb_stA _ _ _ (by decide), eb_stI _ _ _ (by decide)]; exact e39
      · dsimp only
        rw [eb_stI _ _ _ (by decide), eb_stA _ _ _ (by decide), eb_st]
      · rw [if_neg ht12]
        refine ⟨rfl, ?_, ?_, ?_⟩
        · dsimp only
          rw [eb_stI _ _ _ (by decide), eb_stA _ _ _ (by decide), eb_stI _ _ _ (by decide)]; exact e30
        · dsimp only
          rw [eb_st]
        · dsimp only
          rw [eb_stA _ _ _ (by decide), et_stw, eb_stA _ _ _ (by decide), h4.2]
theorem et_nI_ne {f : Nat} (h : f ≤ 400) : ¬ nI f = -1 := fun z => by
  have : (nI f).toInt = (-1 : Int32).toInt := by rw [z]
  rw [nI_toInt (by omega), show (-1 : Int32).toInt = -1 by decide] at this
  omega
theorem et_C_texts {v : Nat} {c c' : Nat → Nat → Int32} (h : eb_C c w) (hv : v ≤ 12) (hc : ∀ i j, i < 14 → j < eb_len i → ¬ (i = 0 ∧ j = 7) → c' i j = c i j) (h0 : c' 0 7 = nI v) : eb_C c' (upd w 3 (nI v)) := by
  have g : ∀ j, j ≠ 3 → upd w 3 (nI v) j = w j := fun j q1 => et_u q1
  have g7 : upd w 3 (nI v) 3 = nI v := et_us
  have k : eb_C (fun i j => if i = 0 ∧ j = 7 then nI v else c i j) (upd w 3 (nI v)) := by
    refine et_C_hd h (fun i j h14 hi => if_neg (by omega)) ?_ ?_ (g _ (by decide)) (g _ (by decide)) (g _ (by decide)) (g _ (by decide)) (fun j q1 _ => g j (by omega))
    · obtain ⟨a0, a1, a2, a3, a4, a5, a6, a7, a8, a9, a10, a11⟩ := h.1
      unfold eb_C1
      rw [g7, g 7 (by decide), g 8 (by decide), g 9 (by decide), g 10 (by decide), g 6 (by decide), g 5 (by decide), g 12 (by decide), g 0 (by decide), g 1 (by decide), g 2 (by decide), g 11 (by decide)]
      exact ⟨a0, a1, a2, a3, a4, a5, a6, rfl, a8, a9, a10, a11⟩
    · obtain ⟨b0, b1, b2, b3, b4, b5, b6, b7, b8, b9⟩ := h.2.1
      unfold eb_C2
      rw [eb_b_cg (g 0 (by decide)), eb_nc_cg (g 1 (by decide)), eb_k_cg (g 2 (by decide)), eb_sz_cg (g 11 (by decide)), g7, g 7 (by decide), g 8 (by decide), g 9 (by decide), g 10 (by decide), g 5 (by decide), g 6 (by decide), g 0 (by decide), g 1 (by decide), g 2 (by decide), g 11 (by decide)]
      exact ⟨b0, b1, b2, ⟨v, hv, rfl⟩, b4, b5, b6, b7, b8, b9⟩
  refine eb_C_cg (fun i j hj => ?_) (fun _ _ => rfl) k
  have h14 := eb_lenI hj
  by_cases q : i = 0 ∧ j = 7
  · show c' i j = if i = 0 ∧ j = 7 then nI v else c i j
    rw [if_pos q, q.1, q.2, h0]
  · show c' i j = if i = 0 ∧ j = 7 then nI v else c i j
    rw [if_neg q]
    exact hc i j h14 hj q
theorem eb_p_court (h : eb_I m) : eb_P eb_I (f_L_court m) f_X12_court := by
  obtain ⟨L, hL, t1, t2, t3⟩ := id h.1.2.2.2.2.1
  obtain ⟨c, hT1, hT2⟩ := et_Tof t3
  obtain ⟨t, ht, e3⟩ : eb_rg (m 273 3) 12 := h.1.1.2.1.2.2.2.1
  have hok := et_all_ok (c := c) (cc := eb_ct m 2) (w := m 273) hL (fun j hj => (hT1 j hj).1) h.1.1
  unfold f_L_court f_X11_court
  rw [show f_X11_useTapeUp m = some (m 0 1, ea_st m 0 1 0) from rfl, eb_clR]
  have key : eb_W (f_X2_copyFrom 24 2 (ea_st m 0 1 0)) (fun z => (∀ a i, ¬ (24 ≤ a ∧ a < 38) → ¬ (a = 0 ∧ i = 1) → z.2 a i = m a i) ∧ z.2 0 1 = 0 ∧ eb_C (eb_ct z.2 24) (m 273)) := by
    refine eb_mono (eb_copy 24 2 (by omega) (ea_st m 0 1 0)) fun z hz => ⟨fun a i q1 q2 => ?_, ?_, eb_C_cg (c := eb_ct m 2) (fun i j hj => ?_) (fun _ _ => rfl) h.1.1⟩
    · rw [hz.2 a (by omega), eb_sts, if_neg q2]
    · rw [hz.2 0 (by omega), eb_st]
    · show z.2 (24 + i) j = m (2 + i) j
      rw [hz.1 i j hj, eb_stA _ _ _ (by omega)]
  obtain ⟨⟨r, m3⟩, ez, z1, z2, z3⟩ := key
  dsimp only at z1 z2 z3
  rw [ez, eb_clR, t1]
  have T3 : et_T1 c m3 := fun j hj => by rw [z1 1 j (by omega) (by omega)]; exact hT1 j hj
  obtain ⟨⟨r6, m5⟩, e5, ⟨f5, g5⟩, g6⟩ := et_cRead (c := c) hL T3 z3
  dsimp only at f5 g5 g6
  rw [e5, eb_clR, eb_bdR, eb_bdR, eb_st]
  have a5 : ∀ a i, ¬ (24 ≤ a ∧ a < 38) → a ≠ 47 → ¬ (a = 0 ∧ i = 1) → m5 a i = m a i := fun a i q1 q2 q3 => by rw [f5 a (by omega)]; exact z1 a i q1 q3
  have a501 : m5 0 1 = 0 := by rw [f5 0 (by omega)]; exact z2
  cases ho : et_all c L (m 273) with
  | inl f =>
    rw [ho] at g5 hok
    have hf : r6 = nI f := g6.trans g5
    rw [if_neg (by rw [hf]; exact et_nI_ne (Nat.le_trans hok hL))]
    refine eb_of (t := (1, ea_st m5 0 2 r6)) rfl ?_
    obtain ⟨m7, e7⟩ : ∃ m7, m7 = ea_st m5 0 2 r6 := ⟨_, rfl⟩
    have a7 : ∀ a i, ¬ (24 ≤ a ∧ a < 38) → a ≠ 47 → ¬ (a = 0 ∧ (i = 1 ∨ i = 2)) → m7 a i = m a i := fun a i q1 q2 q3 => by rw [e7, eb_sts, if_neg (by omega)]; exact a5 a i q1 q2 (by omega)
    have a71 : m7 0 1 = 0 := by rw [e7, eb_stI _ _ _ (by decide)]; exact a501
    have a72 : m7 0 2 = nI f := by rw [e7, eb_st, hf]
    dsimp only
    rw [← e7]
    clear e7
    have w7 : m7 273 = m 273 := funext fun i => a7 273 i (by omega) (by omega) (by omega)
    refine eb_mono (et_courtM (c := c) (cc := eb_ct m 2) (t := t) hL (fun j hj => by rw [a7 278 j (by omega) (by omega) (by omega)]; exact hT2 j hj) (by rw [a7 272 9 (by omega) (by omega) (by omega)]; exact t2) (by rw [w7]; exact h.1.1) (by rw [w7]; exact e3) ht) fun y hy => ?_
    rw [w7, ho] at hy
    obtain ⟨y1, y2, y3, y4, y5, y6⟩ := hy
    refine ⟨y3, fun z => absurd z (by decide), et_I_text h (fun a i q1 q2 q3 => ?_) ?_ (fun a i q1 q2 => ?_) ?_ y2 ?_⟩
    · by_cases hw : a = 273
      · subst hw
        exact y6 i (by unfold eb_NJ at q1; omega)
      · by_cases h7 : a = 272 ∧ i = 7
        · rw [h7.1, h7.2, y5, a7 272 7 (by omega) (by omega) (by omega)]
        · unfold eb_NJ at q1
          rw [y1 a i hw (by omega) (by omega), a7 a i (by omega) (by omega) q2]
    · rw [y1 0 18 (by omega) (by omega) (by omega), a7 0 18 (by omega) (by omega) (by omega)]
    · rw [y1 a i (by omega) (by omega) (by omega), a7 a i (by omega) (by omega) (by omega)]
    · rw [y1 0 1 (by omega) (by omega) (by omega)]; exact a71
    · rw [y1 0 2 (by omega) (by omega) (by omega), a72, y4]
  | inr q =>
    rw [ho] at g5 hok
    have hf : r6 = -1 := g6.trans g5.1
    rw [hf, if_pos rfl, eb_bdR]
    obtain ⟨m7, e7⟩ : ∃ m7, m7 = ea_st m5 0 2 (-1) := ⟨_, rfl⟩
    have a7 : ∀ a i, ¬ (24 ≤ a ∧ a < 38) → a ≠ 47 → ¬ (a = 0 ∧ (i = 1 ∨ i = 2)) → m7 a i = m a i := fun a i q1 q2 q3 => by rw [e7, eb_sts, if_neg (by omega)]; exact a5 a i q1 q2 (by omega)
    have a71 : m7 0 1 = 0 := by rw [e7, eb_stI _ _ _ (by decide)]; exact a501
    have a72 : m7 0 2 = -1 := by rw [e7, eb_st]
    have C7 : eb_C (eb_ct m7 24) q.2 := eb_C_cg (fun i j hj => by
      show m7 (24 + i) j = m5 (24 + i) j
      rw [e7, eb_stA _ _ _ (by omega)]) (fun _ _ => rfl) g5.2
    rw [← e7]
    clear e7
    have w7 : m7 273 = m 273 := funext fun i => a7 273 i (by omega) (by omega) (by omega)
    have a27 : m7 2 7 = nI t := by
      rw [a7 2 7 (by omega) (by omega) (by omega)]
      have : m 2 7 = m 273 3 := h.1.1.1.2.2.2.2.2.2.2.1
      rw [this]; exact e3
    rw [a27]
    by_cases ht12 : t = 12
    · rw [if_neg (show ¬ nI t < 12 from (show ¬ nI t < nI 12 from nI_nlt (by omega) (by omega)))]
      refine eb_of (t := (2, m7)) rfl ?_
      refine eb_mono (et_courtM (c := c) (cc := eb_ct m 2) (t := t) hL (fun j hj => by dsimp only; rw [a7 278 j (by omega) (by omega) (by omega)]; exact hT2 j hj) (by dsimp only; rw [a7 272 9 (by omega) (by omega) (by omega)]; exact t2) (by dsimp only; rw [w7]; exact h.1.1) (by dsimp only; rw [w7]; exact e3) ht) fun y hy => ?_
      dsimp only at hy
      rw [w7, ho] at hy
      dsimp only at hy
      rw [if_pos ht12] at hy
      obtain ⟨y1, y2, y4, y3, y5, y6⟩ := hy
      refine ⟨y3, fun z => absurd z (by dsimp only; decide), et_I_text h (fun a i q1 q2 q3 => ?_) ?_ (fun a i q1 q2 => ?_) ?_ y2 ?_⟩
      · by_cases hw : a = 273
        · subst hw
          exact y6 i (by unfold eb_NJ at q1; omega)
        · by_cases h7 : a = 272 ∧ i = 7
          · rw [h7.1, h7.2, y5, a7 272 7 (by omega) (by omega) (by omega)]
          · unfold eb_NJ at q1
            rw [y1 a i hw (by omega) (by omega), a7 a i (by omega) (by omega) q2]
      · rw [y1 0 18 (by omega) (by omega) (by omega), a7 0 18 (by omega) (by omega) (by omega)]
      · rw [y1 a i (by omega) (by omega) (by omega), a7 a i (by omega) (by omega) (by omega)]
      · rw [y1 0 1 (by omega) (by omega) (by omega)]; exact a71
      · rw [y1 0 2 (by omega) (by omega) (by omega), a72, y4]
    · have a247 : m7 24 7 = nI t := by
        have h1 : m7 24 7 = q.2 3 := C7.1.2.2.2.2.2.2.2.1
        rw [h1, hok.2 3 (Or.inl rfl)]; exact e3
      rw [if_pos (show nI t < 12 from (show nI t < nI 12 from nI_lt (by omega) (by decide))), eb_bdR, a247, eb_bdR, nI_1]
      obtain ⟨⟨r13, m12⟩, e12, k1, k2⟩ := eb_copy 2 24 (by omega) (ea_st m7 24 7 (nI (t + 1)))
      dsimp only at k1 k2
      rw [e12, eb_clR, show f_X11_forgetActs m12 = some (0, ea_st m12 0 13 0) from rfl, eb_clR, eb_forget, eb_clR, eb_bdR]
      have a27' : ea_st (ea_st m12 0 13 0) 0 18 0 2 7 = nI (t + 1) := by
        rw [eb_stA _ _ _ (by decide), eb_stA _ _ _ (by decide), k1 0 7 (by decide), eb_st]
      rw [a27']
      refine eb_of (t := (0, ea_st (ea_st (ea_st m12 0 13 0) 0 18 0) 287 0 (nI (t + 1)))) rfl ?_
      dsimp only
      obtain ⟨mA, eA⟩ : ∃ mA, mA = ea_st (ea_st (ea_st m12 0 13 0) 0 18 0) 287 0 (nI (t + 1)) := ⟨_, rfl⟩
      rw [← eA]
      have n1 : ∀ a i, ¬ (2 ≤ a ∧ a < 16) → ¬ (24 ≤ a ∧ a < 38) → a ≠ 47 → a ≠ 287 → ¬ (a = 0 ∧ (i = 1 ∨ i = 2 ∨ i = 13 ∨ i = 18)) → mA a i = m a i := fun a i q1 q2 q3 q4 q5 => by
        rw [eA, eb_sts, if_neg (by omega), eb_sts, if_neg (by omega), eb_sts, if_neg (by omega), k2 a (by omega), eb_sts, if_neg (by omega), a7 a i (by omega) q3 (by omega)]
      have n13 : mA 0 13 = 0 := by rw [eA, eb_stA _ _ _ (by decide), eb_stI _ _ _ (by decide), eb_st]
      have n18 : mA 0 18 = 0 := by rw [eA, eb_stA _ _ _ (by decide), eb_st]
      have n01 : mA 0 1 = 0 := by rw [eA, eb_stA _ _ _ (by decide), eb_stI _ _ _ (by decide), eb_stI _ _ _ (by decide), k2 0 (by omega), eb_stA _ _ _ (by decide)]; exact a71
      have n02 : mA 0 2 = -1 := by rw [eA, eb_stA _ _ _ (by decide), eb_stI _ _ _ (by decide), eb_stI _ _ _ (by decide), k2 0 (by omega), eb_stA _ _ _ (by decide)]; exact a72
      have n287 : mA 287 0 = nI (t + 1) := by rw [eA, eb_st]
      have nC : eb_C (eb_ct mA 2) (upd q.2 3 (nI (t + 1))) := by
        refine et_C_texts C7 (by omega) (fun i j h14 hj hij => ?_) ?_
        · show mA (2 + i) j = m7 (24 + i) j
          rw [eA, eb_stA _ _ _ (by omega), eb_stA _ _ _ (by omega), eb_stA _ _ _ (by omega), k1 i j hj, eb_sts, if_neg (by omega)]
        · show mA 2 7 = _
          rw [eA, eb_stA _ _ _ (by decide)]; exact a27'
      clear eA a27' e12 k1 k2
      have wA : mA 273 = m 273 := funext fun i => n1 273 i (by omega) (by omega) (by omega) (by omega) (by omega)
      refine eb_mono (et_courtM (c := c) (cc := eb_ct m 2) (t := t) hL (fun j hj => by rw [n1 278 j (by omega) (by omega) (by omega) (by omega) (by omega)]; exact hT2 j hj) (by rw [n1 272 9 (by omega) (by omega) (by omega) (by omega) (by omega)]; exact t2) (by rw [wA]; exact h.1.1) (by rw [wA]; exact e3) ht) fun y hy => ?_
      rw [wA, ho] at hy
      dsimp only at hy
      rw [if_neg ht12] at hy
      obtain ⟨y1, y2, y4, yv, y3, y5, y6⟩ := hy
      have k : ∀ a i, a ≠ 273 → a ≠ 275 → ¬ (a = 272 ∧ (i = 0 ∨ i = 7 ∨ i = 9 ∨ i = 10 ∨ i = 11 ∨ i = 12 ∨ i = 14 ∨ i = 16)) → ¬ (2 ≤ a ∧ a < 16) → ¬ (24 ≤ a ∧ a < 38) → a ≠ 47 → a ≠ 287 → ¬ (a = 0 ∧ (i = 1 ∨ i = 2 ∨ i = 13 ∨ i = 18)) → y.2 a i = m a i := fun a i q1 q2 q3 q4 q5 q6 q7 q8 => by
        rw [y1 a i q1 q2 q3, n1 a i q4 q5 q6 q7 q8]
      have kw : ∀ j, (j = 4 ∨ 482 ≤ j) → y.2 273 j = m 273 j := fun j hj => by
        rw [y6, et_u (by omega), hok.2 j (by omega)]
      refine ⟨y3, fun _ => ?_, ⟨⟨?_, eb_LR_m (fun a i q => k a i (by omega) (by omega) (by omega) (by omega) (by omega) (by omega) (by omega) (by omega)) (kw 4 (Or.inl rfl)) (fun j q _ => kw j (Or.inr q)) h.1.2.1, ?_, eb_im_cg (fun a i q => k a i (by omega) (by omega) (by omega) (by omega) (by omega) (by omega) (by omega) (by omega)) h.1.2.2.2.1, ⟨0, by decide, ?_, y2, fun j hj => ?_⟩, ?_⟩, Or.inl ?_⟩⟩
      · rw [y1 287 0 (by decide) (by decide) (by decide), n287, yv]
      · rw [y6]
        refine eb_C_cg (c := eb_ct mA 2) (fun i j hj => ?_) (fun _ _ => rfl) nC
        have := eb_lenI hj
        exact y1 (2 + i) j (by omega) (by omega) (by omega)
      · obtain ⟨q', x, hq, hx, e13, e7, e14, hp⟩ := h.1.2.2.1
        refine ⟨0, x, by omega, hx, ?_, y5, ?_, fun j hj => by omega⟩
        · rw [y1 0 13 (by decide) (by decide) (by decide)]; exact n13
        · rw [k 0 14 (by omega) (by omega) (by omega) (by omega) (by omega) (by omega) (by omega) (by omega)]; exact e14
      · rw [y1 0 1 (by decide) (by decide) (by decide)]; exact n01
      · rw [k 1 j (by omega) (by omega) (by omega) (by omega) (by omega) (by omega) (by omega) (by omega), k 278 j (by omega) (by omega) (by omega) (by omega) (by omega) (by omega) (by omega) (by omega)]
        exact t3 j hj
      · rw [y1 0 2 (by decide) (by decide) (by decide), n02, y4]
      · rw [y1 0 18 (by decide) (by decide) (by decide)]; exact n18
end COURTP
