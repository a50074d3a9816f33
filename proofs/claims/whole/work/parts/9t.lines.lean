section LINES
variable {c : Nat → Nat} {L p n : Nat} {m m0 : ea_M} {w w' : Nat → Int32} {cc : Nat → Nat → Int32}
/-- r lines and no more -/
def et_ls (c : Nat → Nat) (L : Nat) (f : Nat → (Nat → Int32) → et_Out) : Nat → Nat → (Nat → Int32) → et_Out
  | 0, p, _ => .inl (et_sb c L p)
  | r + 1, p, w => match f p w with
    | .inl x => .inl x
    | .inr q => if et_kd c L (et_sb c L q.1) = 0 then .inr q else if et_sg c L q.1 59 = true then et_ls c L f r (et_te c L q.1) q.2 else .inl (et_sb c L q.1)
def et_all (c : Nat → Nat) (L : Nat) (w : Nat → Int32) : et_Out := if et_kd c L (et_sb c L 0) = 0 then .inr (0, w) else et_ls c L (et_cl c L) 14 0 w
theorem et_ls0 {f : Nat → (Nat → Int32) → et_Out} {r x : Nat} (h : f p w = .inl x) : et_ls c L f (r + 1) p w = .inl x := by
  unfold et_ls
  rw [h]
theorem et_ls1 {f : Nat → (Nat → Int32) → et_Out} {r : Nat} {q : Nat × (Nat → Int32)} (h : f p w = .inr q) : et_ls c L f (r + 1) p w = if et_kd c L (et_sb c L q.1) = 0 then .inr q else if et_sg c L q.1 59 = true then et_ls c L f r (et_te c L q.1) q.2 else .inl (et_sb c L q.1) := by
  rw [et_ls, h]
def et_CR (m0 : ea_M) (o : et_Out) (m : ea_M) : Prop := et_CF m0 m ∧ match o with
  | .inl f => m 47 6 = nI f
  | .inr q => m 47 6 = -1 ∧ eb_C (eb_ct m 24) q.2
theorem et_59 : 59 < 128 ∧ ¬ (97 ≤ 59 ∧ 59 ≤ 122) ∧ ¬ (48 ≤ 59 ∧ 59 ≤ 57) := by decide
theorem et_cRead (hL : L ≤ 400) (hT : et_T1 c m) (hC : eb_C (eb_ct m 24) w) : eb_W (f_X3_read (nI L) m) (fun z => et_CR m (et_all c L w) z.2 ∧ z.1 = z.2 47 6) := by
  unfold f_X3_read et_all
  refine et_cOpen hL (by decide) hT fun r2 m1 k1 k2 => ?_
  have f1 : et_CF m m1 := et_CF_fa (eb_fr_refl _ _) k1
  have C1 := et_C_fa hC k1
  have hk := et_kd_le (c := c) (L := L) (b := et_sb c L 0)
  rw [eb_bdR, k2.1.2.2.1]
  by_cases hk0 : et_kd c L (et_sb c L 0) = 0
  · rw [if_pos (by rw [hk0]; rfl), if_pos hk0]
    unfold f_X3_read_j23
    rw [show ea_loop f_X3_read_s26 ea_fuel (0, 0, m1) = some m1 from eb_loop_inr (by unfold f_X3_read_s26; rw [if_pos rfl]) 99999, eb_obR]
    exact eb_bd (eb_some ⟨⟨f1, k2.2.1, C1⟩, rfl⟩)
  · rw [if_neg (show ¬ nI (et_kd c L (et_sb c L 0)) = 0 from (show ¬ nI (et_kd c L (et_sb c L 0)) = nI 0 by rw [nI_eq (by omega) (by decide)]; exact hk0)), if_neg hk0]
    unfold f_X3_read_j23
    obtain ⟨O, hO⟩ : ∃ O, O = et_ls c L (et_cl c L) 14 0 w := ⟨_, rfl⟩
    rw [← hO]
    refine eb_bind (P := fun z => et_CR m O z) (eb_while (fun k s => (∃ r p w mm, r ≤ 14 ∧ k = r + 1 ∧ s = (1, nI (14 - r), mm) ∧ et_S c L 47 mm p ∧ eb_C (eb_ct mm 24) w ∧ et_CF m mm ∧ O = et_ls c L (et_cl c L) r p w) ∨ (k = 0 ∧ ∃ x mm, s = (0, x, mm) ∧ et_CR m O mm)) ?_ ea_fuel 15 _ (by decide) (Or.inl ⟨14, 0, w, m1, by decide, rfl, rfl, k2, C1, f1, hO⟩)) fun z hz => eb_bd (eb_some ⟨hz, rfl⟩)
    rintro k s (⟨r, p, w, mm, hr, rfl, rfl, hS, hC, hf, hO⟩ | ⟨rfl, x, mm, rfl, hR⟩)
    · unfold f_X3_read_s26
      dsimp only
      rw [if_neg (by decide), if_neg (show ¬ 14 < nI (14 - r) from (show ¬ nI 14 < nI (14 - r) from nI_nlt (by omega) (by decide)))]
      cases r with
      | zero =>
        rw [if_pos (show 14 ≤ nI (14 - 0) from (show nI 14 ≤ nI 14 from nI_le (Nat.le_refl _) (by decide))), et_refuse hS, eb_clR]
        unfold f_X3_read_j56 f_X3_read_j89 f_X3_read_j90
        rw [if_pos rfl]
        refine eb_some ⟨0, by omega, Or.inr ⟨rfl, _, _, rfl, eb_fr_st hf (Or.inl rfl) _ _, ?_⟩⟩
        rw [hO]
        exact eb_st mm 47 6 _
      | succ r =>
        rw [if_neg (show ¬ 14 ≤ nI (14 - (r + 1)) from (show ¬ nI 14 ≤ nI (14 - (r + 1)) from nI_ge (by omega) (by decide)))]
        refine eb_cl (et_cLine hL hS hC hf) fun r20 m19 hz => ?_
        obtain ⟨hz1, hz2⟩ := hz
        dsimp only at hz1 hz2
        unfold f_X3_read_j56
        cases ho : et_cl c L p w with
        | inl f =>
          rw [ho] at hz2
          rw [hz2.1, if_pos rfl]
          unfold f_X3_read_j89 f_X3_read_j90
          refine eb_some ⟨0, by omega, Or.inr ⟨rfl, _, _, rfl, hz1, ?_⟩⟩
          rw [hO, et_ls0 ho]
          exact hz2.2
        | inr q =>
          rw [ho] at hz2
          obtain ⟨e1, S1, C1⟩ := hz2
          rw [et_ls1 ho] at hO
          have hk := et_kd_le (c := c) (L := L) (b := et_sb c L q.1)
          rw [e1, if_neg (by decide), eb_bdR, S1.1.2.2.1]
          by_cases hk0 : et_kd c L (et_sb c L q.1) = 0
          · rw [if_pos (by rw [hk0]; rfl)]
            rw [if_pos hk0] at hO
            unfold f_X3_read_j89 f_X3_read_j90
            refine eb_some ⟨0, by omega, Or.inr ⟨rfl, _, _, rfl, hz1, ?_⟩⟩
            rw [hO]
            exact ⟨S1.2.1, C1⟩
          · rw [if_neg (show ¬ nI (et_kd c L (et_sb c L q.1)) = 0 from (show ¬ nI (et_kd c L (et_sb c L q.1)) = nI 0 by rw [nI_eq (by omega) (by decide)]; exact hk0))]
            rw [if_neg hk0] at hO
            refine et_cSign (x := 59) hL (by decide) et_59 S1 (fun hs m17 g1 g2 => ?_) (fun hs m17 g1 g2 => ?_)
            · rw [if_pos rfl]
              rw [hs, if_neg (by decide)] at hO
              unfold f_X3_read_j89 f_X3_read_j90
              refine eb_some ⟨0, by omega, Or.inr ⟨rfl, _, _, rfl, et_CF_fa hz1 g1, ?_⟩⟩
              rw [hO]
              exact g2
            · rw [if_neg (by decide)]
              rw [hs, if_pos rfl] at hO
              unfold f_X3_read_j90
              refine eb_some ⟨r + 1, by omega, Or.inl ⟨r, _, _, m17, by omega, rfl, ?_, g2, et_C_fa C1 g1, et_CF_fa hz1 g1, hO⟩⟩
              rw [nI_1, show 14 - (r + 1) + 1 = 14 - r by omega]
    · unfold f_X3_read_s26
      dsimp only
      rw [if_pos rfl]
      exact eb_some hR
/-! the reference's reading of a text of the court -/
theorem et_mk (hL : L ≤ 400) (hp : p ≤ L) (hc : ∀ j, j < 400 → c j < 256) (cc : Nat → Nat → Int32) : ∃ m, et_S c L 47 m p ∧ ∀ i j, i < 14 → eb_ct m 24 i j = cc i j := by
  refine ⟨fun b i => if b = 47 then (if i = 1 then nI L else if i = 2 then nI (et_kd c L (et_sb c L p)) else if i = 3 then nI (et_sb c L p) else if i = 4 then nI (et_te c L p) else -1) else if b = 1 then nI (c i) else cc (b - 24) i, ⟨⟨hp, rfl, rfl, rfl, rfl⟩, rfl, fun j hj => ⟨hc j hj, rfl⟩⟩, fun i j hi => ?_⟩
  show (if 24 + i = 47 then _ else if 24 + i = 1 then _ else cc (24 + i - 24) j) = _
  rw [if_neg (by omega), if_neg (by omega), Nat.add_sub_cancel_left]
theorem et_cl_C {q : Nat × (Nat → Int32)} (hL : L ≤ 400) (hp : p ≤ L) (hc : ∀ j, j < 400 → c j < 256) (hC : eb_C cc w) (h : et_cl c L p w = .inr q) : ∃ cc', eb_C cc' q.2 := by
  obtain ⟨m, hS, hm⟩ := et_mk hL hp hc cc
  obtain ⟨z, _, hz⟩ := et_cLine (m0 := m) hL hS (eb_C_cg (c := cc) (fun i j hj => hm i j (eb_lenI hj)) (fun _ _ => rfl) hC) (eb_fr_refl _ _)
  rw [h] at hz
  exact ⟨_, hz.2.2.2⟩
def et_MR (m0 : ea_M) (o : et_Out) (z : Int32 × ea_M) : Prop := et_MF m0 z.2 ∧ match o with
  | .inl f => z.1 = -1 ∧ z.2 272 12 = nI f
  | .inr q => 0 ≤ z.1 ∧ z.2 273 = q.2
theorem et_mRead (hL : L ≤ 400) (hT : et_T2 c m) (h9 : m 272 9 = nI L) (hC : eb_C cc (m 273)) : ∃ m2, (∀ a i, ¬ (a = 272 ∧ (i = 0 ∨ i = 9 ∨ i = 10 ∨ i = 11 ∨ i = 16)) → m2 a i = m a i) ∧ m2 272 0 = 0 ∧ m2 272 9 = 0 ∧ eb_W (f_X12_readAll 1 m) (fun z => et_MR m2 (et_all c L (m 273)) z) := by
  obtain ⟨m2, e2⟩ : ∃ m2, m2 = ea_st (ea_st (ea_st (ea_st (ea_st m 272 0 0) 272 11 (nI L)) 272 9 0) 272 10 0) 272 16 0 := ⟨_, rfl⟩
  have hu : f_X12_uses m = some (0, ea_st (ea_st (ea_st (ea_st m 272 0 0) 272 11 (nI L)) 272 9 0) 272 10 0) := by
    unfold f_X12_uses
    rw [eb_bdR, eb_bdR, eb_stI _ _ _ (by decide), h9]
    rfl
  have a2 : ∀ a i, ¬ (a = 272 ∧ (i = 0 ∨ i = 9 ∨ i = 10 ∨ i = 11 ∨ i = 16)) → m2 a i = m a i := fun a i q => by
    rw [e2, eb_sts, if_neg (by omega), eb_sts, if_neg (by omega), eb_sts, if_neg (by omega), eb_sts, if_neg (by omega), eb_sts, if_neg (by omega)]
  have b0 : m2 272 0 = 0 := by rw [e2, eb_stI _ _ _ (by decide), eb_stI _ _ _ (by decide), eb_stI _ _ _ (by decide), eb_stI _ _ _ (by decide), eb_st]
  have b9 : m2 272 9 = 0 := by rw [e2, eb_stI _ _ _ (by decide), eb_stI _ _ _ (by decide), eb_st]
  have b10 : m2 272 10 = nI 0 := by rw [e2, eb_stI _ _ _ (by decide), eb_st]; rfl
  have b11 : m2 272 11 = nI L := by rw [e2, eb_stI _ _ _ (by decide), eb_stI _ _ _ (by decide), eb_stI _ _ _ (by decide), eb_st]
  have bT : et_T2 c m2 := fun j hj => by rw [a2 278 j (by omega)]; exact hT j hj
  have bw : m2 273 = m 273 := funext fun i => a2 273 i (by omega)
  refine ⟨m2, a2, b0, b9, ?_⟩
  unfold f_X12_readAll
  rw [hu, eb_clR, eb_bdR, ← e2]
  clear e2 hu
  have M0 : et_M c L m2 0 := et_M_at hL (Nat.zero_le _) b10 b11 bT
  refine eb_cl (et_mBl hL M0) fun r5 m4 hm4 => ?_
  obtain ⟨k1, c12, c10⟩ := hm4
  dsimp only at k1 c12 c10
  have f4 : et_MF m2 m4 := et_MF_F (fun _ _ _ _ => rfl) k1
  have w4 : m4 273 = m 273 := by rw [et_F_w k1, bw]
  have d11 : m4 272 11 = nI L := by rw [k1 272 11 (by omega)]; exact b11
  have M4 : et_M c L m4 0 := et_M_sb hL (Nat.zero_le _) c10 d11 (et_F_T2 k1 bT)
  obtain ⟨s1, s2, _, _⟩ := et_sb_spec (c := c) hL (Nat.zero_le L)
  rw [eb_bdR, c10, eb_bdR, d11]
  unfold et_all
  by_cases hk0 : et_kd c L (et_sb c L 0) = 0
  · have := et_kd0.mp hk0
    rw [if_pos (by rw [show et_sb c L 0 = L by omega]), if_pos hk0]
    exact eb_some ⟨f4, (by decide : (0 : Int32) ≤ 0), w4⟩
  · have hlt : et_sb c L 0 < L := by
      by_cases q : et_sb c L 0 < L
      · exact q
      · exact absurd (et_kd0.mpr q) hk0
    rw [if_neg (by rw [nI_eq (by omega) (by omega)]; omega), if_neg hk0]
    obtain ⟨O, hO⟩ : ∃ O, O = et_ls c L (et_cl c L) 14 0 (m 273) := ⟨_, rfl⟩
    rw [← hO]
    have key : eb_W (ea_loop (f_X12_readAll_s28 1) ea_fuel (0, m4)) (fun z => ∃ y, z = .inl y ∧ et_MR m2 O y) := by
      refine eb_while (fun k s => ∃ r p mm, r ≤ 14 ∧ k = r + 1 ∧ s = (nI (14 - r), mm) ∧ et_M c L mm p ∧ (∃ cc, eb_C cc (mm 273)) ∧ et_MF m2 mm ∧ O = et_ls c L (et_cl c L) r p (mm 273)) ?_ ea_fuel 15 _ (by decide) ⟨14, 0, m4, by decide, rfl, rfl, M4, ⟨cc, by rw [w4]; exact hC⟩, f4, by rw [w4]; exact hO⟩
      rintro k s ⟨r, p, mm, hr, rfl, rfl, hM, ⟨cc, hC⟩, hf, hO⟩
      unfold f_X12_readAll_s28
      dsimp only
      have hline : eb_W (f_X12_readLine 1 (nI (14 - r)) mm) (fun z => et_MF m2 z.2 ∧ match r with
          | 0 => z.1 = 0 ∧ z.2 272 12 = nI (et_sb c L p)
          | _ + 1 => et_MO c L m2 (et_cl c L p (mm 273)) z) := by
        unfold f_X12_readLine
        refine et_mLet hL hM fun r2 m1 g1 g2 => ?_
        rw [if_neg (by decide)]
        unfold f_X12_readLine_j16
        cases r with
        | zero =>
          rw [if_pos (show 14 ≤ nI (14 - 0) from (show nI 14 ≤ nI 14 from nI_le (Nat.le_refl _) (by decide)))]
          exact eb_some ⟨et_MF_F hf g1, rfl, g2.2.1⟩
        | succ r =>
          rw [if_neg (show ¬ 14 ≤ nI (14 - (r + 1)) from (show ¬ nI 14 ≤ nI (14 - (r + 1)) from nI_ge (by omega) (by decide))), if_neg (by decide)]
          refine eb_mono (et_ifM (et_mLine (m0 := m2) hL g2 (et_F_w g1) hC (et_MF_F hf g1) b11 bT)) fun z hz => ⟨hz.1, hz⟩
      refine eb_cl hline fun r9 m8 h8 => ?_
      obtain ⟨h8a, h8⟩ := h8
      dsimp only at h8a h8
      cases r with
      | zero =>
        rw [h8.1, if_pos rfl]
        refine eb_some ⟨_, rfl, h8a, ?_⟩
        rw [hO]
        exact ⟨rfl, h8.2⟩
      | succ r =>
        obtain ⟨_, h8⟩ := h8
        dsimp only at h8
        cases ho : et_cl c L p (mm 273) with
        | inl f =>
          rw [ho] at h8
          rw [h8.1, if_pos rfl]
          refine eb_some ⟨_, rfl, h8a, ?_⟩
          rw [hO, et_ls0 ho]
          exact ⟨rfl, h8.2⟩
        | inr q =>
          obtain ⟨cc', hC'⟩ := et_cl_C hL hM.1 (fun j hj => (bT j hj).1) hC ho
          rw [ho] at h8
          obtain ⟨e1, M8, w8⟩ := h8
          rw [et_ls1 ho] at hO
          rw [e1, if_neg (by decide)]
          refine eb_cl (et_mBl hL M8) fun r11 m10 h10 => ?_
          obtain ⟨l1, l12, l10⟩ := h10
          dsimp only at l1 l12 l10
          have f10 := et_MF_F h8a l1
          have w10 : m10 273 = q.2 := by rw [et_F_w l1, w8]
          have l11 : m10 272 11 = nI L := by rw [f10 272 11 (by omega) (by decide)]; exact b11
          have lT := et_F_T2 l1 M8.2.2.2
          obtain ⟨t1, t2, _, _⟩ := et_sb_spec (c := c) hL M8.1
          rw [eb_bdR, l10, eb_bdR, l11]
          by_cases hk0 : et_kd c L (et_sb c L q.1) = 0
          · have := et_kd0.mp hk0
            rw [if_pos (by rw [show et_sb c L q.1 = L by omega])]
            rw [if_pos hk0] at hO
            refine eb_some ⟨_, rfl, f10, ?_⟩
            rw [hO]
            exact ⟨by rw [nI_1]; exact nI_pos' (by omega), w10⟩
          · have hlt : et_sb c L q.1 < L := by
              by_cases q' : et_sb c L q.1 < L
              · exact q'
              · exact absurd (et_kd0.mpr q') hk0
            rw [if_neg (by rw [nI_eq (by omega) (by omega)]; omega), show f_X12_isAt 59 59 m10 = some (if et_sb c L q.1 < L ∧ 59 ≤ c (et_sb c L q.1) ∧ c (et_sb c L q.1) ≤ 59 then 1 else 0, m10) from et_isAt hL (by decide) (by decide) lT l10 l11 (by omega), eb_clR]
            rw [if_neg hk0] at hO
            cases hs : et_sg c L q.1 59 with
            | false =>
              have hn := of_decide_eq_false hs
              rw [hs, if_neg (by decide)] at hO
              rw [if_neg (show ¬ (et_sb c L q.1 < L ∧ 59 ≤ c (et_sb c L q.1) ∧ c (et_sb c L q.1) ≤ 59) from fun z => hn ⟨z.1, by omega⟩), if_pos rfl]
              refine eb_some ⟨_, rfl, f10, ?_⟩
              rw [hO]
              exact ⟨rfl, l12⟩
            | true =>
              have hn := of_decide_eq_true hs
              rw [hs, if_pos rfl] at hO
              rw [if_pos (show et_sb c L q.1 < L ∧ 59 ≤ c (et_sb c L q.1) ∧ c (et_sb c L q.1) ≤ 59 from ⟨hn.1, by omega, by omega⟩), if_neg (by decide), eb_bdR, l10, eb_bdR, nI_1, nI_1]
              have e3 := et_te3 (et_sg_kd et_59.2 hs)
              have w17 : ea_st m10 272 10 (nI (et_sb c L q.1 + 1)) 273 = q.2 := by rw [eb_stA _ _ _ (by decide)]; exact w10
              refine eb_some ⟨r + 1, by omega, r, et_te c L q.1, _, by omega, rfl, by rw [show 14 - (r + 1) + 1 = 14 - r by omega], et_M_at hL (et_te_le hL M8.1).2.1 ?_ ?_ ?_, ⟨cc', by rw [w17]; exact hC'⟩, et_MF_F f10 (et_F_st (et_F_refl _) (Or.inl rfl) _), by rw [w17]; exact hO⟩
              · rw [eb_st, e3]
              · rw [eb_stI _ _ _ (by decide)]; exact l11
              · exact et_F_T2 (et_F_st (et_F_refl _) (Or.inl rfl) _) lT
    obtain ⟨z, ez, y, rfl, hy⟩ := key
    rw [ez]
    exact ⟨y, rfl, hy⟩
end LINES
