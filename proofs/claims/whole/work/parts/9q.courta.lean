section COURTA
/-- what a line of a text comes to: where it is wrong; or what stands behind it, and the world -/
abbrev et_Out : Type := Nat ⊕ (Nat × (Nat → Int32))
def et_B {α : Type} (x : Option α) (f : Nat) (k : α → et_Out) : et_Out := match x with
  | none => .inl f
  | some v => k v
def et_I (b : Bool) (f : Nat) (k : et_Out) : et_Out := match b with
  | false => .inl f
  | true => k
variable {c : Nat → Nat} {L p n : Nat} {m m0 : ea_M} {w : Nat → Int32}
theorem et_B0 {α : Type} {x : Option α} {f : Nat} {k : α → et_Out} (h : x = none) : et_B x f k = .inl f := by rw [h]; rfl
theorem et_B1 {α : Type} {x : Option α} {f : Nat} {k : α → et_Out} {v : α} (h : x = some v) : et_B x f k = k v := by rw [h]; rfl
theorem et_I0 {x : Bool} {f : Nat} {k : et_Out} (h : x = false) : et_I x f k = .inl f := by rw [h]; rfl
theorem et_I1 {x : Bool} {f : Nat} {k : et_Out} (h : x = true) : et_I x f k = k := by rw [h]; rfl
/-- all but the reader's row and the draft is as it was -/
def et_CF (m0 m : ea_M) : Prop := eb_fr (fun x => x = 47 ∨ (24 ≤ x ∧ x ≤ 37)) m0 m
theorem et_CF_fa {m1 m2 : ea_M} (h : et_CF m0 m1) (k : et_fa 47 m1 m2) : et_CF m0 m2 := eb_fr_trans h (eb_fr_sub k fun a ha => Or.inl ha)
theorem et_CF_st {m1 : ea_M} (h : et_CF m0 m1) {a : Nat} (ha : 24 ≤ a ∧ a ≤ 37) (i : Nat) (v : Int32) : et_CF m0 (ea_st m1 a i v) := eb_fr_st h (Or.inr ha) i v
def et_CO (c : Nat → Nat) (L : Nat) (m0 : ea_M) (o : et_Out) (z : Int32 × ea_M) : Prop := et_CF m0 z.2 ∧ match o with
  | .inl f => z.1 = 0 ∧ z.2 47 6 = nI f
  | .inr q => z.1 = 1 ∧ et_S c L 47 z.2 q.1 ∧ eb_C (eb_ct z.2 24) q.2
theorem et_CO0 {m1 : ea_M} {f : Nat} (h1 : et_CF m0 m1) (h2 : m1 47 6 = nI f) : et_CO c L m0 (.inl f) (0, m1) := ⟨h1, rfl, h2⟩
theorem et_CO1 {m1 : ea_M} {q : Nat} {w' : Nat → Int32} (h1 : et_CF m0 m1) (h2 : et_S c L 47 m1 q) (h3 : eb_C (eb_ct m1 24) w') : et_CO c L m0 (.inr (q, w')) (1, m1) := ⟨h1, rfl, h2, h3⟩
theorem et_S47 {m1 : ea_M} {a : Nat} (h : et_S c L 47 m1 p) (ha : 24 ≤ a ∧ a ≤ 37) (i : Nat) (v : Int32) : et_S c L 47 (ea_st m1 a i v) p := et_S_fr h (eb_stA _ _ _ (by omega)) (eb_stA _ _ _ (by omega))
theorem et_S47e {m1 m2 : ea_M} {a i : Nat} {v : Int32} (h : et_S c L 47 m1 p) (e : m2 = ea_st m1 a i v) (ha : 24 ≤ a ∧ a ≤ 37) : et_S c L 47 m2 p := by rw [e]; exact et_S47 h ha _ _
theorem et_leN {v k : Nat} (hv : v ≤ 999) (hk : k < 2 ^ 31) (h : nI v ≤ nI k) : v ≤ k := (nI_leI (by omega) hk).mp h
theorem et_geN {v k : Nat} (hv : v ≤ 999) (h : ¬ nI v < nI k) : k ≤ v ∨ 2 ^ 31 ≤ k := by
  by_cases hk : k < 2 ^ 31
  · by_cases q : k ≤ v
    · exact Or.inl q
    · exact absurd (nI_lt (by omega) hk) h
  · exact Or.inr (by omega)
def et_oTower (c : Nat → Nat) (L p : Nat) (w : Nat → Int32) : et_Out := et_B (et_num c L p 0 15) (et_sb c L p) fun v => et_I (et_w c L (et_te c L p) 9) (et_sb c L (et_te c L p)) (et_B (et_num c L (et_te c L (et_te c L p)) 1 12) (et_sb c L (et_te c L (et_te c L p))) fun u => .inr ((et_te c L (et_te c L (et_te c L p))), upd (upd w 7 (nI v)) 8 (nI u)))
def et_oYard (c : Nat → Nat) (L p : Nat) (w : Nat → Int32) : et_Out := et_B (et_num c L p 0 15) (et_sb c L p) fun v => et_I (et_w c L (et_te c L p) 11) (et_sb c L (et_te c L p)) (et_B (et_num c L (et_te c L (et_te c L p)) (nI v) 15) (et_sb c L (et_te c L (et_te c L p))) fun u => .inr ((et_te c L (et_te c L (et_te c L p))), upd (upd w 9 (nI v)) 10 (nI u)))
def et_oHour (c : Nat → Nat) (L p : Nat) (w : Nat → Int32) : et_Out := et_B (et_num c L p 0 23) (et_sb c L p) fun v => .inr ((et_te c L p), upd w 6 (nI v))
def et_oWind (c : Nat → Nat) (L p : Nat) (w : Nat → Int32) : et_Out := et_B (et_num c L p 0 12) (et_sb c L p) fun v => if et_w c L (et_te c L p) 13 = true then et_B (et_num c L (et_te c L (et_te c L p)) 0 3) (et_sb c L (et_te c L (et_te c L p))) fun u => .inr ((et_te c L (et_te c L (et_te c L p))), upd w (13 + v) (-nI u)) else et_I (et_w c L (et_te c L p) 14) (et_sb c L (et_te c L p)) (et_B (et_num c L (et_te c L (et_te c L p)) 0 3) (et_sb c L (et_te c L (et_te c L p))) fun u => .inr ((et_te c L (et_te c L (et_te c L p))), upd w (13 + v) (nI u)))
theorem et_cTower (hL : L ≤ 400) (hS : et_S c L 47 m p) (hC : eb_C (eb_ct m 24) w) (hf : et_CF m0 m) (hw : et_w c L p 8 = true) : eb_W (f_X3_takesTower m) (et_CO c L m0 (et_oTower c L (et_te c L p) w)) := by
  unfold f_X3_takesTower et_oTower
  refine et_cNamed hL (by decide) (by decide) hS (fun h => by rw [hw] at h; cases h) (fun _ hn m1 k1 k2 => ?_) (fun _ v hn m1 k1 k2 k3 => ?_)
  · rw [if_pos rfl, et_B0 hn]
    exact eb_some (et_CO0 (et_CF_fa hf k1) k2)
  · obtain ⟨v1, v2, v3, v4⟩ := et_num_some hL (et_te_le hL hS.1.1).2.1 hn
    have v5 := et_leN v1 (by decide) (show nI v ≤ nI 15 from v3)
    rw [if_neg (by decide), et_B1 hn]
    refine eb_bdV k3 (eb_bdE fun m4 e4 => ?_)
    have S4 := et_S47e k2 e4 (by decide)
    refine et_cNamed hL (by decide) (by decide) S4 (fun hw m5 g1 g2 => ?_) (fun hw hn m5 g1 g2 => ?_) (fun hw u hn m5 g1 g2 g3 => ?_)
    · rw [if_pos rfl, et_I0 hw]
      exact eb_some (et_CO0 (et_CF_fa (by rw [e4]; exact et_CF_st (et_CF_fa hf k1) (by decide) _ _) g1) g2)
    · rw [if_pos rfl, et_I1 hw, et_B0 hn]
      exact eb_some (et_CO0 (et_CF_fa (by rw [e4]; exact et_CF_st (et_CF_fa hf k1) (by decide) _ _) g1) g2)
    · obtain ⟨u1, u2, u3, u4⟩ := et_num_some hL (et_te_le hL S4.1.1).2.1 hn
      have u5 := et_leN u1 (by decide) (show nI u ≤ nI 12 from u3)
      have u6 := et_geN u1 (show ¬ nI u < nI 1 from u2)
      rw [if_neg (by decide), et_I1 hw, et_B1 hn]
      refine eb_bdV g3 (eb_bd (eb_some (et_CO1 (et_CF_st (et_CF_fa (by rw [e4]; exact et_CF_st (et_CF_fa hf k1) (by decide) _ _) g1) (by decide) _ _) (et_S47 g2 (by decide) _ _) (et_C_tower hC v5 (by omega) u5 (fun i j h14 hij => ?_) ?_ ?_))))
      · show ea_st m5 24 1 (nI u) (24 + i) j = m (24 + i) j
        rw [eb_sts, if_neg (by omega), g1 (24 + i) (by omega), e4, eb_sts, if_neg (by omega), k1 (24 + i) (by omega)]
      · show ea_st m5 24 1 (nI u) 24 0 = nI v
        rw [eb_stI _ _ _ (by decide), g1 24 (by decide), e4, eb_st]
      · exact eb_st m5 24 1 (nI u)
theorem et_cYard (hL : L ≤ 400) (hS : et_S c L 47 m p) (hC : eb_C (eb_ct m 24) w) (hf : et_CF m0 m) (hw : et_w c L p 10 = true) : eb_W (f_X3_takesYard m) (et_CO c L m0 (et_oYard c L (et_te c L p) w)) := by
  unfold f_X3_takesYard et_oYard
  refine et_cNamed hL (by decide) (by decide) hS (fun h => by rw [hw] at h; cases h) (fun _ hn m1 k1 k2 => ?_) (fun _ v hn m1 k1 k2 k3 => ?_)
  · rw [if_pos rfl, et_B0 hn]
    exact eb_some (et_CO0 (et_CF_fa hf k1) k2)
  · obtain ⟨v1, v2, v3, v4⟩ := et_num_some hL (et_te_le hL hS.1.1).2.1 hn
    rw [if_neg (by decide), et_B1 hn]
    refine eb_bdV k3 (eb_bdE fun m4 e4 => ?_)
    have S4 := et_S47e k2 e4 (by decide)
    refine eb_bdV (w := nI v) (by rw [e4, eb_st]) ?_
    refine et_cNamed hL (by decide) (by decide) S4 (fun hw m5 g1 g2 => ?_) (fun hw hn m5 g1 g2 => ?_) (fun hw u hn m5 g1 g2 g3 => ?_)
    · rw [if_pos rfl, et_I0 hw]
      exact eb_some (et_CO0 (et_CF_fa (by rw [e4]; exact et_CF_st (et_CF_fa hf k1) (by decide) _ _) g1) g2)
    · rw [if_pos rfl, et_I1 hw, et_B0 hn]
      exact eb_some (et_CO0 (et_CF_fa (by rw [e4]; exact et_CF_st (et_CF_fa hf k1) (by decide) _ _) g1) g2)
    · obtain ⟨u1, u2, u3, u4⟩ := et_num_some hL (et_te_le hL S4.1.1).2.1 hn
      have u5 := et_leN u1 (by decide) (show nI u ≤ nI 15 from u3)
      have u6 := et_geN u1 u2
      rw [if_neg (by decide), et_I1 hw, et_B1 hn]
      refine eb_bdV g3 (eb_bd (eb_some (et_CO1 (et_CF_st (et_CF_fa (by rw [e4]; exact et_CF_st (et_CF_fa hf k1) (by decide) _ _) g1) (by decide) _ _) (et_S47 g2 (by decide) _ _) (et_C_yard hC (by omega) u5 (fun i j h14 hij => ?_) ?_ ?_))))
      · show ea_st m5 24 3 (nI u) (24 + i) j = m (24 + i) j
        rw [eb_sts, if_neg (by omega), g1 (24 + i) (by omega), e4, eb_sts, if_neg (by omega), k1 (24 + i) (by omega)]
      · show ea_st m5 24 3 (nI u) 24 2 = nI v
        rw [eb_stI _ _ _ (by decide), g1 24 (by decide), e4, eb_st]
      · exact eb_st m5 24 3 (nI u)
theorem et_cHour (hL : L ≤ 400) (hS : et_S c L 47 m p) (hC : eb_C (eb_ct m 24) w) (hf : et_CF m0 m) : eb_W (ea_cl (f_X9_takesNamed 47 15 0 23 m) fun r14 m13 => if r14 = 0 then some ((0 : Int32), m13) else ea_bd (m13 47 5) fun x15 => ea_bd (ea_st m13 24 4 x15) fun m16 => some (1, m16)) (et_CO c L m0 (et_I (et_w c L p 15) (et_sb c L p) (et_oHour c L (et_te c L p) w))) := by
  unfold et_oHour
  refine et_cNamed hL (by decide) (by decide) hS (fun hw m1 k1 k2 => ?_) (fun hw hn m1 k1 k2 => ?_) (fun hw v hn m1 k1 k2 k3 => ?_)
  · rw [if_pos rfl, et_I0 hw]
    exact eb_some (et_CO0 (et_CF_fa hf k1) k2)
  · rw [if_pos rfl, et_I1 hw, et_B0 hn]
    exact eb_some (et_CO0 (et_CF_fa hf k1) k2)
  · obtain ⟨v1, v2, v3, v4⟩ := et_num_some hL (et_te_le hL hS.1.1).2.1 hn
    have v5 := et_leN v1 (by decide) (show nI v ≤ nI 23 from v3)
    rw [if_neg (by decide), et_I1 hw, et_B1 hn]
    refine eb_bdV k3 (eb_bd (eb_some (et_CO1 (et_CF_st (et_CF_fa hf k1) (by decide) _ _) (et_S47 k2 (by decide) _ _) (et_C_hour hC v5 (fun i j h14 hij => ?_) ?_))))
    · show ea_st m1 24 4 (nI v) (24 + i) j = m (24 + i) j
      rw [eb_sts, if_neg (by omega), k1 (24 + i) (by omega)]
    · exact eb_st m1 24 4 (nI v)
theorem et_cWind90 {l : Nat} {x : Int32} {q : Nat} {m1 : ea_M} (hl : l < 13) (hS : et_S c L 47 m1 q) (hC : eb_C (eb_ct m1 24) w) (hf : et_CF m0 m1) : eb_W (f_X3_takesWind_j90 (nI l) x m1) (et_CO c L m0 (.inr (q, upd w (13 + l) x))) := by
  unfold f_X3_takesWind_j90
  rw [eb_gN hl (by decide), nI_clamp (by omega)]
  refine eb_bd (eb_some (et_CO1 (et_CF_st hf (by decide) _ _) (et_S47 hS (by decide) _ _) (et_C_wind hC hl (fun i j h14 hij => ?_) ?_)))
  · show ea_st m1 25 l x (24 + i) j = m1 (24 + i) j
    rw [eb_sts, if_neg (by omega)]
  · exact eb_st m1 25 l x
theorem et_C_fa {m1 : ea_M} (hC : eb_C (eb_ct m 24) w) (k : et_fa 47 m m1) : eb_C (eb_ct m1 24) w := eb_C_cg (fun i j hj => congrFun (k (24 + i) (by have := eb_lenI hj; omega)) j) (fun _ _ => rfl) hC
theorem et_cWind (hL : L ≤ 400) (hS : et_S c L 47 m p) (hC : eb_C (eb_ct m 24) w) (hf : et_CF m0 m) (hw : et_w c L p 12 = true) : eb_W (f_X3_takesWind m) (et_CO c L m0 (et_oWind c L (et_te c L p) w)) := by
  unfold f_X3_takesWind et_oWind
  refine et_cNamed hL (by decide) (by decide) hS (fun h => by rw [hw] at h; cases h) (fun _ hn m1 k1 k2 => ?_) (fun _ v hn m1 k1 k2 k3 => ?_)
  · rw [if_pos rfl, et_B0 hn]
    exact eb_some (et_CO0 (et_CF_fa hf k1) k2)
  · obtain ⟨v1, v2, v3, v4⟩ := et_num_some hL (et_te_le hL hS.1.1).2.1 hn
    have v5 := et_leN v1 (by decide) (show nI v ≤ nI 12 from v3)
    rw [if_neg (by decide), et_B1 hn]
    refine eb_bdV k3 ?_
    rw [et_sees hL (by decide) k2, eb_clR]
    have fin : ∀ (b : Bool) (j : Nat) (hj : j < ea_str.length) (f : et_Out), (et_w c L (et_te c L (et_te c L p)) j = false → f = .inl (et_sb c L (et_te c L (et_te c L p)))) → (et_w c L (et_te c L (et_te c L p)) j = true → f = et_B (et_num c L (et_te c L (et_te c L (et_te c L p))) 0 3) (et_sb c L (et_te c L (et_te c L (et_te c L p)))) fun u => .inr (et_te c L (et_te c L (et_te c L (et_te c L p))), upd w (13 + v) (if b then -nI u else nI u))) → eb_W (f_X3_takesWind_j50 (nI v) (eb_b2 b) j m1) (et_CO c L m0 f) := by
      intro b j hj f hf0 hf1
      unfold f_X3_takesWind_j50
      refine et_cNamed hL (by decide) hj k2 (fun hw m5 g1 g2 => ?_) (fun hw hn m5 g1 g2 => ?_) (fun hw u hn m5 g1 g2 g3 => ?_)
      · rw [if_pos rfl, hf0 hw]
        exact eb_some (et_CO0 (et_CF_fa (et_CF_fa hf k1) g1) g2)
      · rw [if_pos rfl, hf1 hw, et_B0 hn]
        exact eb_some (et_CO0 (et_CF_fa (et_CF_fa hf k1) g1) g2)
      · rw [if_neg (by decide), hf1 hw, et_B1 hn]
        cases b with
        | false =>
          rw [show eb_b2 false = 0 from rfl, if_pos rfl, eb_bdR, g3]
          exact et_cWind90 (by omega) g2 (et_C_fa (et_C_fa hC k1) g1) (et_CF_fa (et_CF_fa hf k1) g1)
        | true =>
          rw [show eb_b2 true = 1 from rfl, if_neg (by decide), eb_bdR, g3]
          exact et_cWind90 (by omega) g2 (et_C_fa (et_C_fa hC k1) g1) (et_CF_fa (et_CF_fa hf k1) g1)
    cases hw13 : et_w c L (et_te c L (et_te c L p)) 13 with
    | false =>
      rw [show eb_b2 false = 0 from rfl, if_pos rfl, if_neg (by decide)]
      refine fin false 14 (by decide) _ (fun h => et_I0 h) (fun h => ?_)
      rw [et_I1 h]
      rfl
    | true =>
      rw [show eb_b2 true = 1 from rfl, if_neg (by decide), if_pos rfl]
      refine fin true 13 (by decide) _ (fun h => by rw [hw13] at h; cases h) (fun h => ?_)
      rfl
def et_wB (w : Nat → Int32) (b : Nat) (x0 x1 x2 x3 : Int32) : Nat → Int32 := upd (upd (upd (upd (upd w (26 + 4 * b) x0) (27 + 4 * b) x1) (28 + 4 * b) x2) (29 + 4 * b) x3) 0 (nI (b + 1))
def et_oBird (c : Nat → Nat) (L p : Nat) (w : Nat → Int32) : et_Out := et_I (et_w c L p 1) (et_sb c L p) (et_B (et_num c L (et_te c L p) 0 4) (et_sb c L (et_te c L p)) fun x0 => et_I (et_w c L (et_te c L (et_te c L p)) 2) (et_sb c L (et_te c L (et_te c L p))) (et_B (et_num c L (et_te c L (et_te c L (et_te c L p))) 0 3) (et_sb c L (et_te c L (et_te c L (et_te c L p)))) fun x1 => et_I (et_w c L (et_te c L (et_te c L (et_te c L (et_te c L p)))) 3) (et_sb c L (et_te c L (et_te c L (et_te c L (et_te c L p))))) (et_B (et_let c L (et_te c L (et_te c L (et_te c L (et_te c L (et_te c L p))))) 6) (et_sb c L (et_te c L (et_te c L (et_te c L (et_te c L (et_te c L p)))))) fun x2 => et_I (et_w c L (et_te c L (et_te c L (et_te c L (et_te c L (et_te c L (et_te c L p)))))) 4) (et_sb c L (et_te c L (et_te c L (et_te c L (et_te c L (et_te c L (et_te c L p))))))) (et_B (et_num c L (et_te c L (et_te c L (et_te c L (et_te c L (et_te c L (et_te c L (et_te c L p))))))) 0 5) (et_sb c L (et_te c L (et_te c L (et_te c L (et_te c L (et_te c L (et_te c L (et_te c L p)))))))) fun x3 => .inr ((et_te c L (et_te c L (et_te c L (et_te c L (et_te c L (et_te c L (et_te c L (et_te c L p)))))))), et_wB w (eb_b w) (nI x0) (nI x1) x2 (nI x3))))))
theorem et_cBird (hL : L ≤ 400) (hS : et_S c L 47 m p) (hC : eb_C (eb_ct m 24) w) (hf : et_CF m0 m) : eb_W (f_X3_takesBird m) (et_CO c L m0 (if eb_b w < 6 then et_oBird c L (et_te c L p) w else .inl (et_sb c L p))) := by
  obtain ⟨b, hb⟩ : ∃ b, b = eb_b w := ⟨_, rfl⟩
  have hb6 : b ≤ 6 := by rw [hb]; exact hC.2.1.1.2
  have e8 : m 24 8 = nI b := by
    have h1 : m 24 8 = w 0 := hC.1.2.2.2.2.2.2.2.2.1
    rw [h1, hC.2.1.1.1, hb]
  unfold f_X3_takesBird
  rw [eb_bdR, e8, ← hb]
  by_cases hb5 : b < 6
  · rw [if_pos (show nI b < 6 from (show nI b < nI 6 from nI_lt hb5 (by decide))), if_pos hb5]
    unfold et_oBird
    rw [← hb]
    have nc : Int32.toNatClampNeg (nI b) = b := nI_clamp (by omega)
    refine et_cStep hL (by decide) hS fun r3 m2 k1 k2 _ => ?_
    have f2 := et_CF_fa hf k1
    have d2 : ∀ i j, i < 14 → m2 (24 + i) j = m (24 + i) j := fun i j hi => by rw [k1 (24 + i) (by omega)]
    refine et_cNamed hL (by decide) (by decide) k2 (fun hw m4 g1 g2 => ?_) (fun hw hn m4 g1 g2 => ?_) (fun hw x0 hn m4 g1 g2 g3 => ?_)
    · rw [if_pos rfl, et_I0 hw]
      exact eb_some (et_CO0 (et_CF_fa f2 g1) g2)
    · rw [if_pos rfl, et_I1 hw, et_B0 hn]
      exact eb_some (et_CO0 (et_CF_fa f2 g1) g2)
    rw [if_neg (by decide), et_I1 hw, et_B1 hn]
    refine eb_bdV g3 (eb_g b hb5 (eb_bdE fun m7 e7 => ?_))
    rw [nc] at e7
    have f7 : et_CF m0 m7 := by rw [e7]; exact et_CF_st (et_CF_fa f2 g1) (by decide) _ _
    have S7 := et_S47e g2 e7 (by decide)
    have d7 : ∀ i j, i < 14 → m7 (24 + i) j = if i = 2 ∧ j = b then nI x0 else m (24 + i) j := fun i j hi => by
      rw [e7, eb_sts, g1 (24 + i) (by omega), d2 i j hi]
      by_cases q : i = 2 ∧ j = b
      · rw [if_pos q, if_pos (by omega)]
      · rw [if_neg q, if_neg (by omega)]
    clear e7 g1 g2 g3 hn hw
    refine et_cNamed hL (by decide) (by decide) S7 (fun hw m4 g1 g2 => ?_) (fun hw hn m4 g1 g2 => ?_) (fun hw x1 hn m8 g1 g2 g3 => ?_)
    · rw [if_pos rfl, et_I0 hw]
      exact eb_some (et_CO0 (et_CF_fa f7 g1) g2)
    · rw [if_pos rfl, et_I1 hw, et_B0 hn]
      exact eb_some (et_CO0 (et_CF_fa f7 g1) g2)
    rw [if_neg (by decide), et_I1 hw, et_B1 hn]
    refine eb_bdV g3 (eb_g b hb5 (eb_bdE fun m11 e11 => ?_))
    rw [nc] at e11
    have f11 : et_CF m0 m11 := by rw [e11]; exact et_CF_st (et_CF_fa f7 g1) (by decide) _ _
    have S11 := et_S47e g2 e11 (by decide)
    have d11 : ∀ i j, i < 14 → m11 (24 + i) j = if i = 3 ∧ j = b then nI x1 else if i = 2 ∧ j = b then nI x0 else m (24 + i) j := fun i j hi => by
      rw [e11, eb_sts, g1 (24 + i) (by omega), d7 i j hi]
      by_cases q : i = 3 ∧ j = b
      · rw [if_pos q, if_pos (by omega)]
      · rw [if_neg q, if_neg (by omega)]
    clear e11 g1 g2 g3 hn hw d7 f7 S7
    refine et_cTakes hL (by decide) (by decide) S11 (fun hw m12 g1 g2 => ?_) (fun hw m12 g1 g2 => ?_)
    · rw [if_pos rfl, et_I0 hw]
      exact eb_some (et_CO0 (et_CF_fa f11 g1) g2)
    rw [if_neg (by decide), et_I1 hw]
    refine et_cLet (n := 6) hL (by decide) (by decide) g2 (fun hn m14 h1 h2 => ?_) (fun x2 hn m14 h1 h2 h3 => ?_)
    · rw [if_pos rfl, et_B0 hn]
      exact eb_some (et_CO0 (et_CF_fa (et_CF_fa f11 g1) h1) h2)
    rw [if_neg (by decide), et_B1 hn]
    refine eb_bdV h3 (eb_g b hb5 (eb_bdE fun m17 e17 => ?_))
    rw [nc] at e17
    have f17 : et_CF m0 m17 := by rw [e17]; exact et_CF_st (et_CF_fa (et_CF_fa f11 g1) h1) (by decide) _ _
    have S17 := et_S47e h2 e17 (by decide)
    have d17 : ∀ i j, i < 14 → m17 (24 + i) j = if i = 4 ∧ j = b then x2 else if i = 3 ∧ j = b then nI x1 else if i = 2 ∧ j = b then nI x0 else m (24 + i) j := fun i j hi => by
      rw [e17, eb_sts, h1 (24 + i) (by omega), g1 (24 + i) (by omega), d11 i j hi]
      by_cases q : i = 4 ∧ j = b
      · rw [if_pos q, if_pos (by omega)]
      · rw [if_neg q, if_neg (by omega)]
    clear e17 g1 g2 h1 h2 h3 hn hw d11 f11 S11
    refine et_cNamed hL (by decide) (by decide) S17 (fun hw m4 g1 g2 => ?_) (fun hw hn m4 g1 g2 => ?_) (fun hw x3 hn m18 g1 g2 g3 => ?_)
    · rw [if_pos rfl, et_I0 hw]
      exact eb_some (et_CO0 (et_CF_fa f17 g1) g2)
    · rw [if_pos rfl, et_I1 hw, et_B0 hn]
      exact eb_some (et_CO0 (et_CF_fa f17 g1) g2)
    obtain ⟨u1, u2, u3, u4⟩ := et_num_some hL (et_te_le hL S17.1.1).2.1 hn
    have u5 := et_leN u1 (by decide) (show nI x3 ≤ nI 5 from u3)
    rw [if_neg (by decide), et_I1 hw, et_B1 hn]
    refine eb_bdV g3 (eb_g b hb5 (eb_bdE fun m21 e21 => ?_))
    rw [nc] at e21
    have f21 : et_CF m0 m21 := by rw [e21]; exact et_CF_st (et_CF_fa f17 g1) (by decide) _ _
    have S21 := et_S47e g2 e21 (by decide)
    have d21 : ∀ i j, i < 14 → m21 (24 + i) j = if i = 5 ∧ j = b then nI x3 else if i = 4 ∧ j = b then x2 else if i = 3 ∧ j = b then nI x1 else if i = 2 ∧ j = b then nI x0 else m (24 + i) j := fun i j hi => by
      rw [e21, eb_sts, g1 (24 + i) (by omega), d17 i j hi]
      by_cases q : i = 5 ∧ j = b
      · rw [if_pos q, if_pos (by omega)]
      · rw [if_neg q, if_neg (by omega)]
    clear e21 d17
    have e8' : m21 24 8 = nI b := by
      have := d21 0 8 (by decide)
      rw [if_neg (by omega), if_neg (by omega), if_neg (by omega), if_neg (by omega)] at this
      exact this.trans e8
    refine eb_bdV e8' (eb_bd (eb_some (et_CO1 (et_CF_st f21 (by decide) _ _) (et_S47 S21 (by decide) _ _) (et_C_bird (b := b) (x0 := nI x0) (x1 := nI x1) (x2 := x2) (x3 := nI x3) hC hb.symm hb5 ⟨x3, u5, rfl⟩ (fun i j h14 hij => ?_) ?_ ?_ ?_ ?_ ?_ (fun j h1 h2 => ?_) ?_ ?_ ?_ ?_ ?_))))
    · show ea_st m21 24 8 _ (24 + i) j = m (24 + i) j
      rw [eb_sts, if_neg (by omega), d21 i j h14, if_neg (by omega), if_neg (by omega), if_neg (by omega), if_neg (by omega)]
    · show ea_st m21 24 8 _ (24 + 2) b = _
      rw [eb_stA _ _ _ (by decide), d21 2 b (by decide), if_neg (by omega), if_neg (by omega), if_neg (by omega), if_pos ⟨rfl, rfl⟩]
    · show ea_st m21 24 8 _ (24 + 3) b = _
      rw [eb_stA _ _ _ (by decide), d21 3 b (by decide), if_neg (by omega), if_neg (by omega), if_pos ⟨rfl, rfl⟩]
    · show ea_st m21 24 8 _ (24 + 4) b = _
      rw [eb_stA _ _ _ (by decide), d21 4 b (by decide), if_neg (by omega), if_pos ⟨rfl, rfl⟩]
    · show ea_st m21 24 8 _ (24 + 5) b = _
      rw [eb_stA _ _ _ (by decide), d21 5 b (by decide), if_pos ⟨rfl, rfl⟩]
    · show ea_st m21 24 8 (nI b + 1) 24 8 = _
      rw [eb_st, nI_1]
    · unfold et_wB
      rw [et_u h2, et_u (by omega), et_u (by omega), et_u (by omega), et_u (by omega)]
    · exact et_us
    · unfold et_wB
      rw [et_u (by omega), et_u (by omega), et_u (by omega), et_u (by omega), et_us]
    · unfold et_wB
      rw [et_u (by omega), et_u (by omega), et_u (by omega), et_us]
    · unfold et_wB
      rw [et_u (by omega), et_u (by omega), et_us]
    · unfold et_wB
      rw [et_u (by omega), et_us]
  · rw [if_neg (show ¬ nI b < 6 from (show ¬ nI b < nI 6 from nI_nlt (by omega) (by omega))), if_neg hb5, et_refuse hS, eb_clR, eb_gz0]
    exact eb_some (et_CO0 (eb_fr_st hf (Or.inl rfl) _ _) (eb_st _ _ _ _))
end COURTA
