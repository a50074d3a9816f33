def F_X7_weigh : ea_F := (ea_rm 10 0 0, cX7_weigh, RX7, none, 2, [], 0, 0)
def D_X7_weigh : List (Nat × Instr × Nat) := [(0, .aload_n 0, 1), (1, .iconst 0, 1), (2, .putfield 18, 3), (5, .aload_n 0, 1), (6, .iconst 0, 1), (7, .putfield 21, 3), (10, .iconst 0, 1), (11, .istore_n 1, 1), (12, .iload_n 1, 1), (13, .aload_n 0, 1), (14, .getfield 9, 3), (17, .if_icmp .ge 126, 3), (20, .iload_n 1, 1), (21, .bipush 12, 2), (23, .if_icmp .ge 120, 3), (26, .aload_n 0, 1), (27, .iload_n 1, 1), (28, .invokevirtual 56, 3), (31, .ifCond .ne 6, 3), (34, .goto 103, 3), (37, .aload_n 0, 1), (38, .getfield 24, 3), (41, .iload_n 1, 1), (42, .iaload, 1), (43, .tableswitch 79 0 2 #[25, 43, 61], 25), (68, .aload_n 0, 1), (69, .dup, 1), (70, .getfield 18, 3), (73, .aload_n 0, 1), (74, .getfield 28, 3), (77, .iload_n 1, 1), (78, .iaload, 1), (79, .iadd, 1), (80, .putfield 18, 3), (83, .goto 54, 3), (86, .aload_n 0, 1), (87, .dup, 1), (88, .getfield 18, 3), (91, .aload_n 0, 1), (92, .getfield 28, 3), (95, .iload_n 1, 1), (96, .iaload, 1), (97, .isub, 1), (98, .putfield 18, 3), (101, .goto 36, 3), (104, .aload_n 0, 1), (105, .dup, 1), (106, .getfield 21, 3), (109, .aload_n 0, 1), (110, .getfield 28, 3), (113, .iload_n 1, 1), (114, .iaload, 1), (115, .iadd, 1), (116, .putfield 21, 3), (119, .goto 18, 3), (122, .aload_n 0, 1), (123, .dup, 1), (124, .getfield 21, 3), (127, .aload_n 0, 1), (128, .getfield 28, 3), (131, .iload_n 1, 1), (132, .iaload, 1), (133, .isub, 1), (134, .putfield 21, 3), (137, .iinc 1 1, 3), (140, .goto (-128), 3), (143, .return_, 1)]
theorem dt_X7_weigh : ∀ q ∈ D_X7_weigh, decode cX7_weigh q.1 = .ok q.2 := by decide +kernel
theorem mv_X7_weigh : ea_MV yX7_weigh (F_X7_weigh) 0 := ⟨⟨List.mem_append_right _ (List.mem_of_getElem? (i := 5) (by decide +kernel)), List.mem_append_right _ (List.mem_of_getElem? (i := 540) (by decide +kernel)), ⟨by decide, by decide⟩, by decide +kernel⟩, List.mem_append_right _ (List.mem_of_getElem? (i := 538) (by decide +kernel)), List.mem_append_right _ (List.mem_of_getElem? (i := 539) (by decide +kernel))⟩
def f_X7_weigh_j137 (a : Nat) (x6 : Int32) (m7 : ea_M) : Option ((Int32 × ea_M) ⊕ (ea_M)) :=
  some (.inl (x6 + 1, m7))
def f_X7_weigh_s12 (a : Nat)  (s12 : Int32 × ea_M) : Option ((Int32 × ea_M) ⊕ (ea_M)) :=
  ea_bd (s12.2 a 0) fun x3 =>
  if x3 ≤ s12.1 then
  some (.inr s12.2)
  else
  if 12 ≤ s12.1 then
  some (.inr s12.2)
  else
  ea_cl (f_X7_holds a s12.1 s12.2) fun r5 m4 =>
  if r5 = 0 then
  f_X7_weigh_j137 a s12.1 m4
  else
  ea_g s12.1 12 (ea_bd (m4 (a + 1) (Int32.toNatClampNeg s12.1)) fun x8 =>
  if x8 = 0 then
  ea_bd (m4 a 2) fun x9 =>
  ea_g s12.1 12 (ea_bd (m4 (a + 2) (Int32.toNatClampNeg s12.1)) fun x10 =>
  ea_bd (ea_st m4 a 2 (x9 + x10)) fun m11 =>
  f_X7_weigh_j137 a s12.1 m11)
  else
  if x8 = 1 then
  ea_bd (m4 a 2) fun x12 =>
  ea_g s12.1 12 (ea_bd (m4 (a + 2) (Int32.toNatClampNeg s12.1)) fun x13 =>
  ea_bd (ea_st m4 a 2 (x12 - x13)) fun m14 =>
  f_X7_weigh_j137 a s12.1 m14)
  else
  if x8 = 2 then
  ea_bd (m4 a 3) fun x15 =>
  ea_g s12.1 12 (ea_bd (m4 (a + 2) (Int32.toNatClampNeg s12.1)) fun x16 =>
  ea_bd (ea_st m4 a 3 (x15 + x16)) fun m17 =>
  f_X7_weigh_j137 a s12.1 m17)
  else
  ea_bd (m4 a 3) fun x18 =>
  ea_g s12.1 12 (ea_bd (m4 (a + 2) (Int32.toNatClampNeg s12.1)) fun x19 =>
  ea_bd (ea_st m4 a 3 (x18 - x19)) fun m20 =>
  f_X7_weigh_j137 a s12.1 m20))
def f_X7_weigh (a : Nat) (m : ea_M) : Option (Int32 × ea_M) :=
  ea_bd (ea_st m a 2 0) fun m1 =>
  ea_bd (ea_st m1 a 3 0) fun m2 =>
  (ea_loop (f_X7_weigh_s12 a) ea_fuel (0, m2)).bind (fun x12s =>
  some (0, x12s))
set_option maxHeartbeats 300000 in
theorem jn_X7_weigh_137 (G : ea_G) {res : ea_O}  (a : Nat) (x6 : Int32) (m7 : ea_M) (ha : ea_isLaw a) {Φ : ((Int32 × ea_M) ⊕ (ea_M)) → Prop} (hC : ∀ s12 : Int32 × ea_M, Φ (.inl s12) → ea_Ev G F_X7_weigh res 12 [some (.ref a), some (.int s12.1)] [] s12.2 0 0) (hX : ∀ x12s : ea_M, Φ (.inr x12s) → ea_Ev G F_X7_weigh res 143 [none, none] [] x12s 0 0) : ea_E G F_X7_weigh res 137 [some (.ref a), some (.int x6)] [] m7 0 0 (f_X7_weigh_j137 a x6 m7) Φ := by
  unfold f_X7_weigh_j137
  refine ev_iinc (ls' := [some (.ref a), some (.int (x6 + 1))]) (ea_at dt_X7_weigh 64 rfl) rfl (congrArg (fun z => _ + z) ic_1) (ea_lt rfl) rfl ?_
  refine ev_goto (tgt := 12) (ea_at dt_X7_weigh 65 rfl) rfl ?_
  exact ev_leaf (fun h => ea_drop (l' := [some (.ref a), some (.int (x6 + 1))]) ⟨Or.inr rfl, Or.inr rfl, trivial⟩ (hC (x6 + 1, m7) h))
set_option maxHeartbeats 300000 in
theorem lp_X7_weigh_12 (G : ea_G) {res : ea_O}  (a : Nat) (ha : ea_isLaw a) {Ψ : ea_M → Prop} (hX : ∀ x12s : ea_M, Ψ x12s → ea_Ev G F_X7_weigh res 143 [none, none] [] x12s 0 0) : ∀ (f : Nat) (s12 : Int32 × ea_M), ea_E G F_X7_weigh res 12 [some (.ref a), some (.int s12.1)] [] s12.2 0 0 (ea_loop (f_X7_weigh_s12 a) f s12) Ψ := by
  refine ev_loop (G := G) (F := F_X7_weigh) (res := res) (pc := 12) (st := []) (k := 0) (n := 0) (step := (f_X7_weigh_s12 a)) (Ψ := Ψ) (fun (s12 : Int32 × ea_M) => [some (.ref a), some (.int s12.1)]) (fun (s12 : Int32 × ea_M) => s12.2) (fun s12 => ?_)
  have hC : ∀ s12 : Int32 × ea_M, (Sum.elim (fun s12 : Int32 × ea_M => ea_Ev G F_X7_weigh res 12 [some (.ref a), some (.int s12.1)] [] s12.2 0 0) Ψ) (.inl s12) → ea_Ev G F_X7_weigh res 12 [some (.ref a), some (.int s12.1)] [] s12.2 0 0 := fun _ h => h
  have hX : ∀ x12s : ea_M, (Sum.elim (fun s12 : Int32 × ea_M => ea_Ev G F_X7_weigh res 12 [some (.ref a), some (.int s12.1)] [] s12.2 0 0) Ψ) (.inr x12s) → ea_Ev G F_X7_weigh res 143 [none, none] [] x12s 0 0 := hX
  unfold f_X7_weigh_s12
  refine ev_iload_n (ea_at dt_X7_weigh 8 rfl) rfl ?_
  refine ev_aload_n (ea_at dt_X7_weigh 9 rfl) rfl ?_
  refine ev_getI (ea_at dt_X7_weigh 10 rfl) fl_X7_9 ha.1 rfl ?_
  refine ev_i (fun x3 => ?_)
  refine ev_icmp_ge (tgt := 143) (ea_at dt_X7_weigh 11 rfl) rfl (fun _ => ?_) (fun _ => ?_)
  · exact ev_leaf (fun h => ea_drop (l' := [none, none]) ⟨Or.inl rfl, Or.inl rfl, trivial⟩ (hX s12.2 h))
  · refine ev_iload_n (ea_at dt_X7_weigh 12 rfl) rfl ?_
    refine ev_bipush (ea_at dt_X7_weigh 13 rfl) bp_12 ?_
    refine ev_icmp_ge (tgt := 143) (ea_at dt_X7_weigh 14 rfl) rfl (fun _ => ?_) (fun _ => ?_)
    · exact ev_leaf (fun h => ea_drop (l' := [none, none]) ⟨Or.inl rfl, Or.inl rfl, trivial⟩ (hX s12.2 h))
    · refine ev_aload_n (ea_at dt_X7_weigh 15 rfl) rfl ?_
      refine ev_iload_n (ea_at dt_X7_weigh 16 rfl) rfl ?_
      refine ev_clI (F1 := F_X7_holds) (fun rY mY hY => ea_runV (As := [.int s12.1]) (ea_at dt_X7_weigh 17 rfl) ml_X7_56 mv_X7_holds (ok_X7_holds G a s12.1 s12.2 ha rY mY hY) ha.1 rfl rfl rfl (Nat.le_of_ble_eq_true rfl) rfl) rfl (fun r5 m4 => ?_)
      refine ev_if_ne (tgt := 37) (ea_at dt_X7_weigh 18 rfl) rfl (fun _ => ?_) (fun _ => ?_)
      · refine ev_goto (tgt := 137) (ea_at dt_X7_weigh 19 rfl) rfl ?_
        exact ev_drop (l' := [some (.ref a), some (.int s12.1)]) ⟨Or.inr rfl, Or.inr rfl, trivial⟩ (jn_X7_weigh_137 G a s12.1 m4 ha hC hX)
      · refine ev_aload_n (ea_at dt_X7_weigh 20 rfl) rfl ?_
        refine ev_getR (ea_at dt_X7_weigh 21 rfl) fl_X7_24 ha.1 rfl ?_
        refine ev_iload_n (ea_at dt_X7_weigh 22 rfl) rfl ?_
        refine ev_iaload (ea_at dt_X7_weigh 23 rfl) ha.2.1 (by decide) ?_
        refine ev_i (fun x8 => ?_)
        refine ev_ite (fun n0 => ?_) (fun n0 => ?_)
        · refine ev_tsw (c := 0) (tgt := 68) n0 (ea_at dt_X7_weigh 24 rfl) (by decide) (by decide) rfl rfl ?_
          refine ev_aload_n (ea_at dt_X7_weigh 25 rfl) rfl ?_
          refine ev_dup (ea_at dt_X7_weigh 26 rfl) rfl ?_
          refine ev_getI (ea_at dt_X7_weigh 27 rfl) fl_X7_18 ha.1 rfl ?_
          refine ev_i (fun x9 => ?_)
          refine ev_aload_n (ea_at dt_X7_weigh 28 rfl) rfl ?_
          refine ev_getR (ea_at dt_X7_weigh 29 rfl) fl_X7_28 ha.1 rfl ?_
          refine ev_iload_n (ea_at dt_X7_weigh 30 rfl) rfl ?_
          refine ev_iaload (ea_at dt_X7_weigh 31 rfl) ha.2.2.1 (by decide) ?_
          refine ev_i (fun x10 => ?_)
          refine ev_iadd (ea_at dt_X7_weigh 32 rfl) ?_
          refine ev_putI (ea_at dt_X7_weigh 33 rfl) fl_X7_18 fp_7_2 ha.1 rfl ?_
          refine ev_m (fun m11 => ?_)
          refine ev_goto (tgt := 137) (ea_at dt_X7_weigh 34 rfl) rfl ?_
          exact ev_drop (l' := [some (.ref a), some (.int s12.1)]) ⟨Or.inr rfl, Or.inr rfl, trivial⟩ (jn_X7_weigh_137 G a s12.1 m11 ha hC hX)
        · refine ev_ite (fun n1 => ?_) (fun n1 => ?_)
          · refine ev_tsw (c := 1) (tgt := 86) n1 (ea_at dt_X7_weigh 24 rfl) (by decide) (by decide) rfl rfl ?_
            refine ev_aload_n (ea_at dt_X7_weigh 35 rfl) rfl ?_
            refine ev_dup (ea_at dt_X7_weigh 36 rfl) rfl ?_
            refine ev_getI (ea_at dt_X7_weigh 37 rfl) fl_X7_18 ha.1 rfl ?_
            refine ev_i (fun x12 => ?_)
            refine ev_aload_n (ea_at dt_X7_weigh 38 rfl) rfl ?_
            refine ev_getR (ea_at dt_X7_weigh 39 rfl) fl_X7_28 ha.1 rfl ?_
            refine ev_iload_n (ea_at dt_X7_weigh 40 rfl) rfl ?_
            refine ev_iaload (ea_at dt_X7_weigh 41 rfl) ha.2.2.1 (by decide) ?_
            refine ev_i (fun x13 => ?_)
            refine ev_isub (ea_at dt_X7_weigh 42 rfl) ?_
            refine ev_putI (ea_at dt_X7_weigh 43 rfl) fl_X7_18 fp_7_2 ha.1 rfl ?_
            refine ev_m (fun m14 => ?_)
            refine ev_goto (tgt := 137) (ea_at dt_X7_weigh 44 rfl) rfl ?_
            exact ev_drop (l' := [some (.ref a), some (.int s12.1)]) ⟨Or.inr rfl, Or.inr rfl, trivial⟩ (jn_X7_weigh_137 G a s12.1 m14 ha hC hX)
          · refine ev_ite (fun n2 => ?_) (fun n2 => ?_)
            · refine ev_tsw (c := 2) (tgt := 104) n2 (ea_at dt_X7_weigh 24 rfl) (by decide) (by decide) rfl rfl ?_
              refine ev_aload_n (ea_at dt_X7_weigh 45 rfl) rfl ?_
              refine ev_dup (ea_at dt_X7_weigh 46 rfl) rfl ?_
              refine ev_getI (ea_at dt_X7_weigh 47 rfl) fl_X7_21 ha.1 rfl ?_
              refine ev_i (fun x15 => ?_)
              refine ev_aload_n (ea_at dt_X7_weigh 48 rfl) rfl ?_
              refine ev_getR (ea_at dt_X7_weigh 49 rfl) fl_X7_28 ha.1 rfl ?_
              refine ev_iload_n (ea_at dt_X7_weigh 50 rfl) rfl ?_
              refine ev_iaload (ea_at dt_X7_weigh 51 rfl) ha.2.2.1 (by decide) ?_
              refine ev_i (fun x16 => ?_)
              refine ev_iadd (ea_at dt_X7_weigh 52 rfl) ?_
              refine ev_putI (ea_at dt_X7_weigh 53 rfl) fl_X7_21 fp_7_3 ha.1 rfl ?_
              refine ev_m (fun m17 => ?_)
              refine ev_goto (tgt := 137) (ea_at dt_X7_weigh 54 rfl) rfl ?_
              exact ev_drop (l' := [some (.ref a), some (.int s12.1)]) ⟨Or.inr rfl, Or.inr rfl, trivial⟩ (jn_X7_weigh_137 G a s12.1 m17 ha hC hX)
            · refine ev_tswOut (cnt := 3) (tgt := 122) (ea_at dt_X7_weigh 24 rfl) rfl (ea_nS (ea_nS (ea_nS (ea_nZ) (v := 0) (by decide) n0) (v := 1) (by decide) n1) (v := 2) (by decide) n2) rfl ?_
              refine ev_aload_n (ea_at dt_X7_weigh 55 rfl) rfl ?_
              refine ev_dup (ea_at dt_X7_weigh 56 rfl) rfl ?_
              refine ev_getI (ea_at dt_X7_weigh 57 rfl) fl_X7_21 ha.1 rfl ?_
              refine ev_i (fun x18 => ?_)
              refine ev_aload_n (ea_at dt_X7_weigh 58 rfl) rfl ?_
              refine ev_getR (ea_at dt_X7_weigh 59 rfl) fl_X7_28 ha.1 rfl ?_
              refine ev_iload_n (ea_at dt_X7_weigh 60 rfl) rfl ?_
              refine ev_iaload (ea_at dt_X7_weigh 61 rfl) ha.2.2.1 (by decide) ?_
              refine ev_i (fun x19 => ?_)
              refine ev_isub (ea_at dt_X7_weigh 62 rfl) ?_
              refine ev_putI (ea_at dt_X7_weigh 63 rfl) fl_X7_21 fp_7_3 ha.1 rfl ?_
              refine ev_m (fun m20 => ?_)
              exact ev_drop (l' := [some (.ref a), some (.int s12.1)]) ⟨Or.inr rfl, Or.inr rfl, trivial⟩ (jn_X7_weigh_137 G a s12.1 m20 ha hC hX)
set_option maxHeartbeats 300000 in
theorem ok_X7_weigh (G : ea_G) (a : Nat) (m : ea_M) (ha : ea_isLaw a) (rZ : Int32) (mZ : ea_M) (hZ : f_X7_weigh a m = some (rZ, mZ)) : ea_Met G yX7_weigh F_X7_weigh [.ref a] m (0, rZ, mZ) := by
  refine ea_met (F := F_X7_weigh) (by decide +kernel) rfl rfl (Nat.le_of_ble_eq_true rfl) (by simp only [List.mem_cons, List.not_mem_nil, or_false]; intro v hv; rcases hv with rfl <;> rfl) ((?_ : ea_E G F_X7_weigh (0, rZ, mZ) 0 [some (.ref a), none] [] m 0 0 (f_X7_weigh a m) (fun t => t = (rZ, mZ))) (rZ, mZ) hZ rfl)
  have hR : ∀ t : Int32 × ea_M, t = (rZ, mZ) → ((0, rZ, mZ) : ea_O) = (0, t) := fun t h => by rw [h]
  unfold f_X7_weigh
  refine ev_aload_n (ea_at dt_X7_weigh 0 rfl) rfl ?_
  refine ev_iconst (ea_at dt_X7_weigh 1 rfl) ic_0 ?_
  refine ev_putI (ea_at dt_X7_weigh 2 rfl) fl_X7_18 fp_7_2 ha.1 rfl ?_
  refine ev_m (fun m1 => ?_)
  refine ev_aload_n (ea_at dt_X7_weigh 3 rfl) rfl ?_
  refine ev_iconst (ea_at dt_X7_weigh 4 rfl) ic_0 ?_
  refine ev_putI (ea_at dt_X7_weigh 5 rfl) fl_X7_21 fp_7_3 ha.1 rfl ?_
  refine ev_m (fun m2 => ?_)
  refine ev_iconst (ea_at dt_X7_weigh 6 rfl) ic_0 ?_
  refine ev_istore_n (ls' := [some (.ref a), some (.int 0)]) (ea_at dt_X7_weigh 7 rfl) (ea_lt rfl) rfl ?_
  refine ev_drop (l' := [some (.ref a), some (.int 0)]) ⟨Or.inr rfl, Or.inr rfl, trivial⟩ ?_
  refine ev_bind (lp_X7_weigh_12 G a ha  (fun x12s h => ?_) ea_fuel (0, m2))
  obtain ⟨t1, e1, q1⟩ := h
  refine (?_ : ea_E G F_X7_weigh (0, rZ, mZ) 143 [none, none] [] x12s 0 0 _ (fun t => t = (rZ, mZ))) t1 e1 q1
  exact ev_vret (ea_at dt_X7_weigh 66 rfl) rfl ⟨by decide, by decide⟩ (fun h => ⟨0, hR _ h⟩)
def F_X0_weigh : ea_F := (ea_rm 11 0 0, cX0_weigh, RX0, none, 6, [], 0, 0)
def D_X0_weigh : List (Nat × Instr × Nat) := [(0, .aload_n 0, 1), (1, .getfield 31, 3), (4, .getfield 39, 3), (7, .iload_n 1, 1), (8, .iaload, 1), (9, .istore 5, 2), (11, .aload_n 0, 1), (12, .getfield 35, 3), (15, .getfield 45, 3), (18, .iconst 0, 1), (19, .iload_n 1, 1), (20, .iastore, 1), (21, .aload_n 0, 1), (22, .getfield 35, 3), (25, .getfield 45, 3), (28, .iconst 1, 1), (29, .iload_n 2, 1), (30, .iastore, 1), (31, .aload_n 0, 1), (32, .getfield 35, 3), (35, .getfield 45, 3), (38, .iconst 2, 1), (39, .iload_n 3, 1), (40, .iastore, 1), (41, .aload_n 0, 1), (42, .getfield 35, 3), (45, .getfield 45, 3), (48, .iconst 3, 1), (49, .iload 5, 2), (51, .iastore, 1), (52, .aload_n 0, 1), (53, .getfield 35, 3), (56, .getfield 45, 3), (59, .iconst 4, 1), (60, .aload_n 0, 1), (61, .getfield 31, 3), (64, .getfield 50, 3), (67, .iastore, 1), (68, .aload_n 0, 1), (69, .getfield 35, 3), (72, .getfield 45, 3), (75, .iconst 5, 1), (76, .iload 4, 2), (78, .iastore, 1), (79, .aload_n 0, 1), (80, .getfield 35, 3), (83, .getfield 45, 3), (86, .bipush 6, 2), (88, .iload_n 2, 1), (89, .aload_n 0, 1), (90, .getfield 31, 3), (93, .getfield 53, 3), (96, .iconst 2, 1), (97, .idiv, 1), (98, .if_icmp .le 7, 3), (101, .iconst 1, 1), (102, .goto 4, 3), (105, .iconst 0, 1), (106, .iastore, 1), (107, .aload_n 0, 1), (108, .getfield 35, 3), (111, .getfield 45, 3), (114, .bipush 7, 2), (116, .aload_n 0, 1), (117, .getfield 31, 3), (120, .iload_n 3, 1), (121, .invokevirtual 56, 3), (124, .ifCond .eq 7, 3), (127, .iconst 1, 1), (128, .goto 4, 3), (131, .iconst 0, 1), (132, .iastore, 1), (133, .aload_n 0, 1), (134, .getfield 35, 3), (137, .invokevirtual 60, 3), (140, .aload_n 0, 1), (141, .iconst 0, 1), (142, .bipush 12, 2), (144, .aload_n 0, 1), (145, .getfield 31, 3), (148, .getfield 63, 3), (151, .iload_n 1, 1), (152, .iaload, 1), (153, .aload_n 0, 1), (154, .getfield 35, 3), (157, .getfield 66, 3), (160, .iadd, 1), (161, .invokestatic 69, 3), (164, .invokestatic 75, 3), (167, .putfield 21, 3), (170, .aload_n 0, 1), (171, .aload_n 0, 1), (172, .getfield 31, 3), (175, .getfield 78, 3), (178, .iload_n 2, 1), (179, .iaload, 1), (180, .iload 5, 2), (182, .imul, 1), (183, .aload_n 0, 1), (184, .getfield 35, 3), (187, .getfield 81, 3), (190, .iadd, 1), (191, .putfield 25, 3), (194, .return_, 1)]
theorem dt_X0_weigh : ∀ q ∈ D_X0_weigh, decode cX0_weigh q.1 = .ok q.2 := by decide +kernel
theorem mv_X0_weigh : ea_MV yX0_weigh (F_X0_weigh) 4 := ⟨⟨List.mem_append_right _ (List.mem_of_getElem? (i := 9) (by decide +kernel)), List.mem_append_right _ (List.mem_of_getElem? (i := 532) (by decide +kernel)), ⟨by decide, by decide⟩, by decide +kernel⟩, List.mem_append_right _ (List.mem_of_getElem? (i := 530) (by decide +kernel)), List.mem_append_right _ (List.mem_of_getElem? (i := 531) (by decide +kernel))⟩
def f_X0_weigh_j132 (p1 : Int32) (p2 : Int32) (x17 : Int32) (x18 : Int32) (x19 : Int32) (m20 : ea_M) : Option (Int32 × ea_M) :=
  ea_g x18 8 (ea_bd (ea_st m20 22 (Int32.toNatClampNeg x18) x19) fun m21 =>
  ea_cl (f_X7_weigh 16 m21) fun r23 m22 =>
  ea_g p1 6 (ea_bd (m22 4 (Int32.toNatClampNeg p1)) fun x24 =>
  ea_bd (m22 16 2) fun x25 =>
  ea_bd (ea_min 12 (x24 + x25)) fun x26 =>
  ea_bd (ea_max 0 x26) fun x27 =>
  ea_bd (ea_st m22 73 4 x27) fun m28 =>
  ea_g p2 13 (ea_bd (m28 3 (Int32.toNatClampNeg p2)) fun x29 =>
  ea_bd (m28 16 3) fun x30 =>
  ea_bd ((x29 * x17) + x30) fun x31 =>
  ea_bd (ea_st m28 73 5 x31) fun m32 =>
  some (0, m32))))
def f_X0_weigh_j106 (p1 : Int32) (p2 : Int32) (p3 : Int32) (x10 : Int32) (x11 : Int32) (x12 : Int32) (m13 : ea_M) : Option (Int32 × ea_M) :=
  ea_g x11 8 (ea_bd (ea_st m13 22 (Int32.toNatClampNeg x11) x12) fun m14 =>
  ea_cl (f_X2_isYard 2 p3 m14) fun r16 m15 =>
  if r16 = 0 then
  f_X0_weigh_j132 p1 p2 x10 7 0 m15
  else
  f_X0_weigh_j132 p1 p2 x10 7 1 m15)
def f_X0_weigh (p1 : Int32) (p2 : Int32) (p3 : Int32) (p4 : Int32) (m : ea_M) : Option (Int32 × ea_M) :=
  ea_g p1 6 (ea_bd (m 5 (Int32.toNatClampNeg p1)) fun x1 =>
  ea_bd (ea_st m 22 0 p1) fun m2 =>
  ea_bd (ea_st m2 22 1 p2) fun m3 =>
  ea_bd (ea_st m3 22 2 p3) fun m4 =>
  ea_bd (ea_st m4 22 3 x1) fun m5 =>
  ea_bd (m5 2 4) fun x6 =>
  ea_bd (ea_st m5 22 4 x6) fun m7 =>
  ea_bd (ea_st m7 22 5 p4) fun m8 =>
  ea_bd (m8 2 1) fun x9 =>
  if p2 ≤ (x9 / 2) then
  f_X0_weigh_j106 p1 p2 p3 x1 6 0 m8
  else
  f_X0_weigh_j106 p1 p2 p3 x1 6 1 m8)
set_option maxHeartbeats 300000 in
theorem jn_X0_weigh_132 (G : ea_G) {res : ea_O}  (p1 : Int32) (p2 : Int32) (x17 : Int32) (x18 : Int32) (x19 : Int32) (m20 : ea_M)  {Φ : (Int32 × ea_M) → Prop} (hR : ∀ t : Int32 × ea_M, Φ t → res = (0, t)) : ea_E G F_X0_weigh res 132 [some (.ref 73), some (.int p1), some (.int p2), none, none, some (.int x17)] [.int x19, .int x18, .ref 22] m20 0 0 (f_X0_weigh_j132 p1 p2 x17 x18 x19 m20) Φ := by
  unfold f_X0_weigh_j132
  refine ev_iastore (ea_at dt_X0_weigh 71 rfl) sh_22 (by decide) ?_
  refine ev_m (fun m21 => ?_)
  refine ev_aload_n (ea_at dt_X0_weigh 72 rfl) rfl ?_
  refine ev_getR (ea_at dt_X0_weigh 73 rfl) fl_X0_35 sh_73 rfl ?_
  refine ev_clU (F1 := F_X7_weigh) (fun rY mY hY => ea_runV (As := []) (ea_at dt_X0_weigh 74 rfl) ml_X0_60 mv_X7_weigh (ok_X7_weigh G 16 m21 is_Law_16 rY mY hY) sh_16 rfl rfl rfl (Nat.le_of_ble_eq_true rfl) rfl) rfl (fun r23 m22 => ?_)
  refine ev_aload_n (ea_at dt_X0_weigh 75 rfl) rfl ?_
  refine ev_iconst (ea_at dt_X0_weigh 76 rfl) ic_0 ?_
  refine ev_bipush (ea_at dt_X0_weigh 77 rfl) bp_12 ?_
  refine ev_aload_n (ea_at dt_X0_weigh 78 rfl) rfl ?_
  refine ev_getR (ea_at dt_X0_weigh 79 rfl) fl_X0_31 sh_73 rfl ?_
  refine ev_getR (ea_at dt_X0_weigh 80 rfl) fl_X0_63 sh_2 rfl ?_
  refine ev_iload_n (ea_at dt_X0_weigh 81 rfl) rfl ?_
  refine ev_iaload (ea_at dt_X0_weigh 82 rfl) sh_4 (by decide) ?_
  refine ev_i (fun x24 => ?_)
  refine ev_aload_n (ea_at dt_X0_weigh 83 rfl) rfl ?_
  refine ev_getR (ea_at dt_X0_weigh 84 rfl) fl_X0_35 sh_73 rfl ?_
  refine ev_getI (ea_at dt_X0_weigh 85 rfl) fl_X0_66 sh_16 rfl ?_
  refine ev_i (fun x25 => ?_)
  refine ev_iadd (ea_at dt_X0_weigh 86 rfl) ?_
  refine ev_mmin (ea_at dt_X0_weigh 87 rfl) ml_X0_69 ea_maW_min ⟨by decide, Nat.le_of_ble_eq_true rfl, by decide, by decide⟩ ?_
  refine ev_i (fun x26 => ?_)
  refine ev_mmax (ea_at dt_X0_weigh 88 rfl) ml_X0_75 ea_maW_max ⟨by decide, Nat.le_of_ble_eq_true rfl, by decide, by decide⟩ ?_
  refine ev_i (fun x27 => ?_)
  refine ev_putI (ea_at dt_X0_weigh 89 rfl) fl_X0_21 fp_0_4 sh_73 rfl ?_
  refine ev_m (fun m28 => ?_)
  refine ev_aload_n (ea_at dt_X0_weigh 90 rfl) rfl ?_
  refine ev_aload_n (ea_at dt_X0_weigh 91 rfl) rfl ?_
  refine ev_getR (ea_at dt_X0_weigh 92 rfl) fl_X0_31 sh_73 rfl ?_
  refine ev_getR (ea_at dt_X0_weigh 93 rfl) fl_X0_78 sh_2 rfl ?_
  refine ev_iload_n (ea_at dt_X0_weigh 94 rfl) rfl ?_
  refine ev_iaload (ea_at dt_X0_weigh 95 rfl) sh_3 (by decide) ?_
  refine ev_i (fun x29 => ?_)
  refine ev_iload (ea_at dt_X0_weigh 96 rfl) rfl ?_
  refine ev_imul (ea_at dt_X0_weigh 97 rfl) ?_
  refine ev_aload_n (ea_at dt_X0_weigh 98 rfl) rfl ?_
  refine ev_getR (ea_at dt_X0_weigh 99 rfl) fl_X0_35 sh_73 rfl ?_
  refine ev_getI (ea_at dt_X0_weigh 100 rfl) fl_X0_81 sh_16 rfl ?_
  refine ev_i (fun x30 => ?_)
  refine ev_iadd (ea_at dt_X0_weigh 101 rfl) ?_
  refine ev_i (fun x31 => ?_)
  refine ev_putI (ea_at dt_X0_weigh 102 rfl) fl_X0_25 fp_0_5 sh_73 rfl ?_
  refine ev_m (fun m32 => ?_)
  exact ev_vret (ea_at dt_X0_weigh 103 rfl) rfl ⟨by decide, by decide⟩ (fun h => ⟨0, hR _ h⟩)
set_option maxHeartbeats 300000 in
theorem jn_X0_weigh_106 (G : ea_G) {res : ea_O}  (p1 : Int32) (p2 : Int32) (p3 : Int32) (x10 : Int32) (x11 : Int32) (x12 : Int32) (m13 : ea_M)  {Φ : (Int32 × ea_M) → Prop} (hR : ∀ t : Int32 × ea_M, Φ t → res = (0, t)) : ea_E G F_X0_weigh res 106 [some (.ref 73), some (.int p1), some (.int p2), some (.int p3), none, some (.int x10)] [.int x12, .int x11, .ref 22] m13 0 0 (f_X0_weigh_j106 p1 p2 p3 x10 x11 x12 m13) Φ := by
  unfold f_X0_weigh_j106
  refine ev_iastore (ea_at dt_X0_weigh 58 rfl) sh_22 (by decide) ?_
  refine ev_m (fun m14 => ?_)
  refine ev_aload_n (ea_at dt_X0_weigh 59 rfl) rfl ?_
  refine ev_getR (ea_at dt_X0_weigh 60 rfl) fl_X0_35 sh_73 rfl ?_
  refine ev_getR (ea_at dt_X0_weigh 61 rfl) fl_X0_45 sh_16 rfl ?_
  refine ev_bipush (ea_at dt_X0_weigh 62 rfl) bp_7 ?_
  refine ev_aload_n (ea_at dt_X0_weigh 63 rfl) rfl ?_
  refine ev_getR (ea_at dt_X0_weigh 64 rfl) fl_X0_31 sh_73 rfl ?_
  refine ev_iload_n (ea_at dt_X0_weigh 65 rfl) rfl ?_
  refine ev_clI (F1 := F_X2_isYard) (fun rY mY hY => ea_runV (As := [.int p3]) (ea_at dt_X0_weigh 66 rfl) ml_X0_56 mv_X2_isYard (ok_X2_isYard G 2 p3 m14 is_Court_2 rY mY hY) sh_2 rfl rfl rfl (Nat.le_of_ble_eq_true rfl) rfl) rfl (fun r16 m15 => ?_)
  refine ev_if_eq (tgt := 131) (ea_at dt_X0_weigh 67 rfl) rfl (fun _ => ?_) (fun _ => ?_)
  · refine ev_iconst (ea_at dt_X0_weigh 70 rfl) ic_0 ?_
    exact ev_drop (l' := [some (.ref 73), some (.int p1), some (.int p2), none, none, some (.int x10)]) ⟨Or.inr rfl, Or.inr rfl, Or.inr rfl, Or.inl rfl, Or.inl rfl, Or.inr rfl, trivial⟩ (jn_X0_weigh_132 G p1 p2 x10 7 0 m15  hR)
  · refine ev_iconst (ea_at dt_X0_weigh 68 rfl) ic_1 ?_
    refine ev_goto (tgt := 132) (ea_at dt_X0_weigh 69 rfl) rfl ?_
    exact ev_drop (l' := [some (.ref 73), some (.int p1), some (.int p2), none, none, some (.int x10)]) ⟨Or.inr rfl, Or.inr rfl, Or.inr rfl, Or.inl rfl, Or.inl rfl, Or.inr rfl, trivial⟩ (jn_X0_weigh_132 G p1 p2 x10 7 1 m15  hR)
set_option maxHeartbeats 300000 in
theorem ok_X0_weigh (G : ea_G) (p1 : Int32) (p2 : Int32) (p3 : Int32) (p4 : Int32) (m : ea_M)  (rZ : Int32) (mZ : ea_M) (hZ : f_X0_weigh p1 p2 p3 p4 m = some (rZ, mZ)) : ea_Met G yX0_weigh F_X0_weigh [.ref 73, .int p1, .int p2, .int p3, .int p4] m (0, rZ, mZ) := by
  refine ea_met (F := F_X0_weigh) (by decide +kernel) rfl rfl (Nat.le_of_ble_eq_true rfl) (by simp only [List.mem_cons, List.not_mem_nil, or_false]; intro v hv; rcases hv with rfl | rfl | rfl | rfl | rfl <;> rfl) ((?_ : ea_E G F_X0_weigh (0, rZ, mZ) 0 [some (.ref 73), some (.int p1), some (.int p2), some (.int p3), some (.int p4), none] [] m 0 0 (f_X0_weigh p1 p2 p3 p4 m) (fun t => t = (rZ, mZ))) (rZ, mZ) hZ rfl)
  have hR : ∀ t : Int32 × ea_M, t = (rZ, mZ) → ((0, rZ, mZ) : ea_O) = (0, t) := fun t h => by rw [h]
  unfold f_X0_weigh
  refine ev_aload_n (ea_at dt_X0_weigh 0 rfl) rfl ?_
  refine ev_getR (ea_at dt_X0_weigh 1 rfl) fl_X0_31 sh_73 rfl ?_
  refine ev_getR (ea_at dt_X0_weigh 2 rfl) fl_X0_39 sh_2 rfl ?_
  refine ev_iload_n (ea_at dt_X0_weigh 3 rfl) rfl ?_
  refine ev_iaload (ea_at dt_X0_weigh 4 rfl) sh_5 (by decide) ?_
  refine ev_i (fun x1 => ?_)
  refine ev_istore (ls' := [some (.ref 73), some (.int p1), some (.int p2), some (.int p3), some (.int p4), some (.int x1)]) (ea_at dt_X0_weigh 5 rfl) (ea_lt rfl) rfl ?_
  refine ev_aload_n (ea_at dt_X0_weigh 6 rfl) rfl ?_
  refine ev_getR (ea_at dt_X0_weigh 7 rfl) fl_X0_35 sh_73 rfl ?_
  refine ev_getR (ea_at dt_X0_weigh 8 rfl) fl_X0_45 sh_16 rfl ?_
  refine ev_iconst (ea_at dt_X0_weigh 9 rfl) ic_0 ?_
  refine ev_iload_n (ea_at dt_X0_weigh 10 rfl) rfl ?_
  refine ev_iastoreC (j := 0) (ea_at dt_X0_weigh 11 rfl) sh_22 (by decide) (by decide) (by decide) (by decide) ?_
  refine ev_m (fun m2 => ?_)
  refine ev_aload_n (ea_at dt_X0_weigh 12 rfl) rfl ?_
  refine ev_getR (ea_at dt_X0_weigh 13 rfl) fl_X0_35 sh_73 rfl ?_
  refine ev_getR (ea_at dt_X0_weigh 14 rfl) fl_X0_45 sh_16 rfl ?_
  refine ev_iconst (ea_at dt_X0_weigh 15 rfl) ic_1 ?_
  refine ev_iload_n (ea_at dt_X0_weigh 16 rfl) rfl ?_
  refine ev_iastoreC (j := 1) (ea_at dt_X0_weigh 17 rfl) sh_22 (by decide) (by decide) (by decide) (by decide) ?_
  refine ev_m (fun m3 => ?_)
  refine ev_aload_n (ea_at dt_X0_weigh 18 rfl) rfl ?_
  refine ev_getR (ea_at dt_X0_weigh 19 rfl) fl_X0_35 sh_73 rfl ?_
  refine ev_getR (ea_at dt_X0_weigh 20 rfl) fl_X0_45 sh_16 rfl ?_
  refine ev_iconst (ea_at dt_X0_weigh 21 rfl) ic_2 ?_
  refine ev_iload_n (ea_at dt_X0_weigh 22 rfl) rfl ?_
  refine ev_iastoreC (j := 2) (ea_at dt_X0_weigh 23 rfl) sh_22 (by decide) (by decide) (by decide) (by decide) ?_
  refine ev_m (fun m4 => ?_)
  refine ev_aload_n (ea_at dt_X0_weigh 24 rfl) rfl ?_
  refine ev_getR (ea_at dt_X0_weigh 25 rfl) fl_X0_35 sh_73 rfl ?_
  refine ev_getR (ea_at dt_X0_weigh 26 rfl) fl_X0_45 sh_16 rfl ?_
  refine ev_iconst (ea_at dt_X0_weigh 27 rfl) ic_3 ?_
  refine ev_iload (ea_at dt_X0_weigh 28 rfl) rfl ?_
  refine ev_iastoreC (j := 3) (ea_at dt_X0_weigh 29 rfl) sh_22 (by decide) (by decide) (by decide) (by decide) ?_
  refine ev_m (fun m5 => ?_)
  refine ev_aload_n (ea_at dt_X0_weigh 30 rfl) rfl ?_
  refine ev_getR (ea_at dt_X0_weigh 31 rfl) fl_X0_35 sh_73 rfl ?_
  refine ev_getR (ea_at dt_X0_weigh 32 rfl) fl_X0_45 sh_16 rfl ?_
  refine ev_iconst (ea_at dt_X0_weigh 33 rfl) ic_4 ?_
  refine ev_aload_n (ea_at dt_X0_weigh 34 rfl) rfl ?_
  refine ev_getR (ea_at dt_X0_weigh 35 rfl) fl_X0_31 sh_73 rfl ?_
  refine ev_getI (ea_at dt_X0_weigh 36 rfl) fl_X0_50 sh_2 rfl ?_
  refine ev_i (fun x6 => ?_)
  refine ev_iastoreC (j := 4) (ea_at dt_X0_weigh 37 rfl) sh_22 (by decide) (by decide) (by decide) (by decide) ?_
  refine ev_m (fun m7 => ?_)
  refine ev_aload_n (ea_at dt_X0_weigh 38 rfl) rfl ?_
  refine ev_getR (ea_at dt_X0_weigh 39 rfl) fl_X0_35 sh_73 rfl ?_
  refine ev_getR (ea_at dt_X0_weigh 40 rfl) fl_X0_45 sh_16 rfl ?_
  refine ev_iconst (ea_at dt_X0_weigh 41 rfl) ic_5 ?_
  refine ev_iload (ea_at dt_X0_weigh 42 rfl) rfl ?_
  refine ev_iastoreC (j := 5) (ea_at dt_X0_weigh 43 rfl) sh_22 (by decide) (by decide) (by decide) (by decide) ?_
  refine ev_m (fun m8 => ?_)
  refine ev_aload_n (ea_at dt_X0_weigh 44 rfl) rfl ?_
  refine ev_getR (ea_at dt_X0_weigh 45 rfl) fl_X0_35 sh_73 rfl ?_
  refine ev_getR (ea_at dt_X0_weigh 46 rfl) fl_X0_45 sh_16 rfl ?_
  refine ev_bipush (ea_at dt_X0_weigh 47 rfl) bp_6 ?_
  refine ev_iload_n (ea_at dt_X0_weigh 48 rfl) rfl ?_
  refine ev_aload_n (ea_at dt_X0_weigh 49 rfl) rfl ?_
  refine ev_getR (ea_at dt_X0_weigh 50 rfl) fl_X0_31 sh_73 rfl ?_
  refine ev_getI (ea_at dt_X0_weigh 51 rfl) fl_X0_53 sh_2 rfl ?_
  refine ev_i (fun x9 => ?_)
  refine ev_iconst (ea_at dt_X0_weigh 52 rfl) ic_2 ?_
  refine ev_idiv (ea_at dt_X0_weigh 53 rfl) (by decide) ?_
  refine ev_icmp_le (tgt := 105) (ea_at dt_X0_weigh 54 rfl) rfl (fun _ => ?_) (fun _ => ?_)
  · refine ev_iconst (ea_at dt_X0_weigh 57 rfl) ic_0 ?_
    exact ev_drop (l' := [some (.ref 73), some (.int p1), some (.int p2), some (.int p3), none, some (.int x1)]) ⟨Or.inr rfl, Or.inr rfl, Or.inr rfl, Or.inr rfl, Or.inl rfl, Or.inr rfl, trivial⟩ (jn_X0_weigh_106 G p1 p2 p3 x1 6 0 m8  hR)
  · refine ev_iconst (ea_at dt_X0_weigh 55 rfl) ic_1 ?_
    refine ev_goto (tgt := 106) (ea_at dt_X0_weigh 56 rfl) rfl ?_
    exact ev_drop (l' := [some (.ref 73), some (.int p1), some (.int p2), some (.int p3), none, some (.int x1)]) ⟨Or.inr rfl, Or.inr rfl, Or.inr rfl, Or.inr rfl, Or.inl rfl, Or.inr rfl, trivial⟩ (jn_X0_weigh_106 G p1 p2 p3 x1 6 1 m8  hR)
def F_X11_moves : ea_F := (ea_rm 12 4 24, cX11_moves, RX11, some .int, 6, [], 4, 24)
def D_X11_moves : List (Nat × Instr × Nat) := [(0, .aload_n 0, 1), (1, .iload_n 1, 1), (2, .invokevirtual 157, 3), (5, .aload_n 0, 1), (6, .iload_n 2, 1), (7, .iconst 1, 1), (8, .invokevirtual 209, 3), (11, .aload_n 0, 1), (12, .iload_n 3, 1), (13, .invokevirtual 216, 3), (16, .aload_n 0, 1), (17, .iload 4, 2), (19, .iconst 0, 1), (20, .bipush 7, 2), (22, .invokevirtual 219, 3), (25, .aload_n 0, 1), (26, .getfield 83, 3), (29, .iload_n 1, 1), (30, .iload_n 2, 1), (31, .iload_n 3, 1), (32, .iload 4, 2), (34, .invokevirtual 223, 3), (37, .iload 5, 2), (39, .ifCond .eq 13, 3), (42, .aload_n 0, 1), (43, .getfield 83, 3), (46, .getfield 227, 3), (49, .goto 10, 3), (52, .aload_n 0, 1), (53, .getfield 83, 3), (56, .getfield 230, 3), (59, .ireturn, 1)]
theorem dt_X11_moves : ∀ q ∈ D_X11_moves, decode cX11_moves q.1 = .ok q.2 := by decide +kernel
theorem mv_X11_moves : ea_MV yX11_moves (F_X11_moves) 5 := ⟨⟨List.mem_append_right _ (List.mem_of_getElem? (i := 1) (by decide +kernel)), List.mem_append_right _ (List.mem_of_getElem? (i := 1059) (by decide +kernel)), ⟨by decide, by decide⟩, by decide +kernel⟩, List.mem_append_right _ (List.mem_of_getElem? (i := 1057) (by decide +kernel)), List.mem_append_right _ (List.mem_of_getElem? (i := 1058) (by decide +kernel))⟩
def f_X11_moves (p1 : Int32) (p2 : Int32) (p3 : Int32) (p4 : Int32) (p5 : Int32) (m : ea_M) : Option (ea_O) :=
  ea_cx (f_X11_needBird p1 m) (fun r2 m1 =>
  ea_cx (f_X11_needLevel p2 1 m1) (fun r4 m3 =>
  ea_cx (f_X11_needColumn p3 m3) (fun r6 m5 =>
  ea_cx (f_X11_needWithin p4 0 7 m5) (fun r8 m7 =>
  ea_cl (f_X0_weigh p1 p2 p3 p4 m7) fun r10 m9 =>
  if p5 = 0 then
  ea_bd (m9 73 4) fun x11 =>
  some (0, x11, m9)
  else
  ea_bd (m9 73 5) fun x12 =>
  some (0, x12, m9)) (fun kx mx => some (kx, 0, mx))) (fun kx mx => some (kx, 0, mx))) (fun kx mx => some (kx, 0, mx))) (fun kx mx => some (kx, 0, mx))
set_option maxHeartbeats 300000 in
theorem ok_X11_moves (G : ea_G) (p1 : Int32) (p2 : Int32) (p3 : Int32) (p4 : Int32) (p5 : Int32) (m : ea_M)  (zZ : ea_O) (hZ : f_X11_moves p1 p2 p3 p4 p5 m = some zZ) : ea_Met G yX11_moves F_X11_moves [.ref 0, .int p1, .int p2, .int p3, .int p4, .int p5] m zZ := by
  refine ea_met (F := F_X11_moves) (by decide +kernel) rfl rfl (Nat.le_of_ble_eq_true rfl) (by simp only [List.mem_cons, List.not_mem_nil, or_false]; intro v hv; rcases hv with rfl | rfl | rfl | rfl | rfl | rfl <;> rfl) ((?_ : ea_E G F_X11_moves zZ 0 [some (.ref 0), some (.int p1), some (.int p2), some (.int p3), some (.int p4), some (.int p5)] [] m 0 0 (f_X11_moves p1 p2 p3 p4 p5 m) (fun t => t = zZ)) zZ hZ rfl)
  have hR : ∀ t : ea_O, t = zZ → zZ = t := fun t h => h.symm
  unfold f_X11_moves
  refine ev_aload_n (ea_at dt_X11_moves 0 rfl) rfl ?_
  refine ev_iload_n (ea_at dt_X11_moves 1 rfl) rfl ?_
  refine ev_cxU (F1 := F_X11_needBird) rfl (fun zY hY => ea_runV (As := [.int p1]) (ea_at dt_X11_moves 2 rfl) ml_X11_157 mv_X11_needBird (ok_X11_needBird G p1 m  zY hY) sh_0 rfl rfl rfl (Nat.le_of_ble_eq_true rfl) rfl) rfl ⟨by decide, by decide⟩ (fun kx mx t e q => ⟨0, by cases e; exact hR _ q⟩) (fun r2 m1 => ?_)
  refine ev_aload_n (ea_at dt_X11_moves 3 rfl) rfl ?_
  refine ev_iload_n (ea_at dt_X11_moves 4 rfl) rfl ?_
  refine ev_iconst (ea_at dt_X11_moves 5 rfl) ic_1 ?_
  refine ev_cxU (F1 := F_X11_needLevel) rfl (fun zY hY => ea_runV (As := [.int p2, .int 1]) (ea_at dt_X11_moves 6 rfl) ml_X11_209 mv_X11_needLevel (ok_X11_needLevel G p2 1 m1  zY hY) sh_0 rfl rfl rfl (Nat.le_of_ble_eq_true rfl) rfl) rfl ⟨by decide, by decide⟩ (fun kx mx t e q => ⟨0, by cases e; exact hR _ q⟩) (fun r4 m3 => ?_)
  refine ev_aload_n (ea_at dt_X11_moves 7 rfl) rfl ?_
  refine ev_iload_n (ea_at dt_X11_moves 8 rfl) rfl ?_
  refine ev_cxU (F1 := F_X11_needColumn) rfl (fun zY hY => ea_runV (As := [.int p3]) (ea_at dt_X11_moves 9 rfl) ml_X11_216 mv_X11_needColumn (ok_X11_needColumn G p3 m3  zY hY) sh_0 rfl rfl rfl (Nat.le_of_ble_eq_true rfl) rfl) rfl ⟨by decide, by decide⟩ (fun kx mx t e q => ⟨0, by cases e; exact hR _ q⟩) (fun r6 m5 => ?_)
  refine ev_aload_n (ea_at dt_X11_moves 10 rfl) rfl ?_
  refine ev_iload (ea_at dt_X11_moves 11 rfl) rfl ?_
  refine ev_iconst (ea_at dt_X11_moves 12 rfl) ic_0 ?_
  refine ev_bipush (ea_at dt_X11_moves 13 rfl) bp_7 ?_
  refine ev_cxU (F1 := F_X11_needWithin) rfl (fun zY hY => ea_runV (As := [.int p4, .int 0, .int 7]) (ea_at dt_X11_moves 14 rfl) ml_X11_219 mv_X11_needWithin (ok_X11_needWithin G p4 0 7 m5  zY hY) sh_0 rfl rfl rfl (Nat.le_of_ble_eq_true rfl) rfl) rfl ⟨by decide, by decide⟩ (fun kx mx t e q => ⟨0, by cases e; exact hR _ q⟩) (fun r8 m7 => ?_)
  refine ev_aload_n (ea_at dt_X11_moves 15 rfl) rfl ?_
  refine ev_getR (ea_at dt_X11_moves 16 rfl) fl_X11_83 sh_0 rfl ?_
  refine ev_iload_n (ea_at dt_X11_moves 17 rfl) rfl ?_
  refine ev_iload_n (ea_at dt_X11_moves 18 rfl) rfl ?_
  refine ev_iload_n (ea_at dt_X11_moves 19 rfl) rfl ?_
  refine ev_iload (ea_at dt_X11_moves 20 rfl) rfl ?_
  refine ev_clU (F1 := F_X0_weigh) (fun rY mY hY => ea_runV (As := [.int p1, .int p2, .int p3, .int p4]) (ea_at dt_X11_moves 21 rfl) ml_X11_223 mv_X0_weigh (ok_X0_weigh G p1 p2 p3 p4 m7  rY mY hY) sh_73 rfl rfl rfl (Nat.le_of_ble_eq_true rfl) rfl) rfl (fun r10 m9 => ?_)
  refine ev_iload (ea_at dt_X11_moves 22 rfl) rfl ?_
  refine ev_if_eq (tgt := 52) (ea_at dt_X11_moves 23 rfl) rfl (fun _ => ?_) (fun _ => ?_)
  · refine ev_aload_n (ea_at dt_X11_moves 28 rfl) rfl ?_
    refine ev_getR (ea_at dt_X11_moves 29 rfl) fl_X11_83 sh_0 rfl ?_
    refine ev_getI (ea_at dt_X11_moves 30 rfl) fl_X11_230 sh_73 rfl ?_
    refine ev_i (fun x11 => ?_)
    exact ev_iret (ea_at dt_X11_moves 31 rfl) rfl ⟨by decide, by decide⟩ (fun h => hR _ h)
  · refine ev_aload_n (ea_at dt_X11_moves 24 rfl) rfl ?_
    refine ev_getR (ea_at dt_X11_moves 25 rfl) fl_X11_83 sh_0 rfl ?_
    refine ev_getI (ea_at dt_X11_moves 26 rfl) fl_X11_227 sh_73 rfl ?_
    refine ev_i (fun x12 => ?_)
    refine ev_goto (tgt := 59) (ea_at dt_X11_moves 27 rfl) rfl ?_
    exact ev_iret (ea_at dt_X11_moves 31 rfl) rfl ⟨by decide, by decide⟩ (fun h => hR _ h)
def F_X1_openCases : ea_F := (ea_rm 8 0 0, cX1_openCases, RX1, some .int, 3, [], 0, 0)
def D_X1_openCases : List (Nat × Instr × Nat) := [(0, .iconst 0, 1), (1, .istore_n 1, 1), (2, .iconst 0, 1), (3, .istore_n 2, 1), (4, .iload_n 2, 1), (5, .aload_n 0, 1), (6, .getfield 15, 3), (9, .if_icmp .ge 24, 3), (12, .aload_n 0, 1), (13, .getfield 31, 3), (16, .iload_n 2, 1), (17, .iaload, 1), (18, .ifCond .ne 9, 3), (21, .iload_n 1, 1), (22, .iconst 1, 1), (23, .iload_n 2, 1), (24, .ishl, 1), (25, .ior, 1), (26, .istore_n 1, 1), (27, .iinc 2 1, 3), (30, .goto (-26), 3), (33, .iload_n 1, 1), (34, .ireturn, 1)]
theorem dt_X1_openCases : ∀ q ∈ D_X1_openCases, decode cX1_openCases q.1 = .ok q.2 := by decide +kernel
theorem mv_X1_openCases : ea_MV yX1_openCases (F_X1_openCases) 0 := ⟨⟨List.mem_append_right _ (List.mem_of_getElem? (i := 3) (by decide +kernel)), List.mem_append_right _ (List.mem_of_getElem? (i := 496) (by decide +kernel)), ⟨by decide, by decide⟩, by decide +kernel⟩, List.mem_append_right _ (List.mem_of_getElem? (i := 494) (by decide +kernel)), List.mem_append_right _ (List.mem_of_getElem? (i := 495) (by decide +kernel))⟩
def f_X1_openCases_j27 (a : Nat) (x4 : Int32) (x5 : Int32) (m6 : ea_M) : Option ((Int32 × Int32 × ea_M) ⊕ (Int32 × ea_M)) :=
  some (.inl (x4, x5 + 1, m6))
def f_X1_openCases_s4 (a : Nat)  (s4 : Int32 × Int32 × ea_M) : Option ((Int32 × Int32 × ea_M) ⊕ (Int32 × ea_M)) :=
  ea_bd (s4.2.2 a 1) fun x1 =>
  if x1 ≤ s4.2.1 then
  some (.inr (s4.1, s4.2.2))
  else
  ea_g s4.2.1 12 (ea_bd (s4.2.2 (a + 5) (Int32.toNatClampNeg s4.2.1)) fun x2 =>
  if x2 = 0 then
  ea_bd (s4.1 ||| (1 <<< (s4.2.1 &&& 31))) fun x3 =>
  f_X1_openCases_j27 a x3 s4.2.1 s4.2.2
  else
  f_X1_openCases_j27 a s4.1 s4.2.1 s4.2.2)
def f_X1_openCases (a : Nat) (m : ea_M) : Option (Int32 × ea_M) :=
  (ea_loop (f_X1_openCases_s4 a) ea_fuel (0, 0, m)).bind (fun x4s =>
  some (x4s.1, x4s.2))
set_option maxHeartbeats 300000 in
theorem jn_X1_openCases_27 (G : ea_G) {res : ea_O}  (a : Nat) (x4 : Int32) (x5 : Int32) (m6 : ea_M) (ha : ea_isBench a) {Φ : ((Int32 × Int32 × ea_M) ⊕ (Int32 × ea_M)) → Prop} (hC : ∀ s4 : Int32 × Int32 × ea_M, Φ (.inl s4) → ea_Ev G F_X1_openCases res 4 [some (.ref a), some (.int s4.1), some (.int s4.2.1)] [] s4.2.2 0 0) (hX : ∀ x4s : Int32 × ea_M, Φ (.inr x4s) → ea_Ev G F_X1_openCases res 33 [none, some (.int x4s.1), none] [] x4s.2 0 0) : ea_E G F_X1_openCases res 27 [some (.ref a), some (.int x4), some (.int x5)] [] m6 0 0 (f_X1_openCases_j27 a x4 x5 m6) Φ := by
  unfold f_X1_openCases_j27
  refine ev_iinc (ls' := [some (.ref a), some (.int x4), some (.int (x5 + 1))]) (ea_at dt_X1_openCases 19 rfl) rfl (congrArg (fun z => _ + z) ic_1) (ea_lt rfl) rfl ?_
  refine ev_goto (tgt := 4) (ea_at dt_X1_openCases 20 rfl) rfl ?_
  exact ev_leaf (fun h => ea_drop (l' := [some (.ref a), some (.int x4), some (.int (x5 + 1))]) ⟨Or.inr rfl, Or.inr rfl, Or.inr rfl, trivial⟩ (hC (x4, x5 + 1, m6) h))
set_option maxHeartbeats 300000 in
theorem lp_X1_openCases_4 (G : ea_G) {res : ea_O}  (a : Nat) (ha : ea_isBench a) {Ψ : (Int32 × ea_M) → Prop} (hX : ∀ x4s : Int32 × ea_M, Ψ x4s → ea_Ev G F_X1_openCases res 33 [none, some (.int x4s.1), none] [] x4s.2 0 0) : ∀ (f : Nat) (s4 : Int32 × Int32 × ea_M), ea_E G F_X1_openCases res 4 [some (.ref a), some (.int s4.1), some (.int s4.2.1)] [] s4.2.2 0 0 (ea_loop (f_X1_openCases_s4 a) f s4) Ψ := by
  refine ev_loop (G := G) (F := F_X1_openCases) (res := res) (pc := 4) (st := []) (k := 0) (n := 0) (step := (f_X1_openCases_s4 a)) (Ψ := Ψ) (fun (s4 : Int32 × Int32 × ea_M) => [some (.ref a), some (.int s4.1), some (.int s4.2.1)]) (fun (s4 : Int32 × Int32 × ea_M) => s4.2.2) (fun s4 => ?_)
  have hC : ∀ s4 : Int32 × Int32 × ea_M, (Sum.elim (fun s4 : Int32 × Int32 × ea_M => ea_Ev G F_X1_openCases res 4 [some (.ref a), some (.int s4.1), some (.int s4.2.1)] [] s4.2.2 0 0) Ψ) (.inl s4) → ea_Ev G F_X1_openCases res 4 [some (.ref a), some (.int s4.1), some (.int s4.2.1)] [] s4.2.2 0 0 := fun _ h => h
  have hX : ∀ x4s : Int32 × ea_M, (Sum.elim (fun s4 : Int32 × Int32 × ea_M => ea_Ev G F_X1_openCases res 4 [some (.ref a), some (.int s4.1), some (.int s4.2.1)] [] s4.2.2 0 0) Ψ) (.inr x4s) → ea_Ev G F_X1_openCases res 33 [none, some (.int x4s.1), none] [] x4s.2 0 0 := hX
  unfold f_X1_openCases_s4
  refine ev_iload_n (ea_at dt_X1_openCases 4 rfl) rfl ?_
  refine ev_aload_n (ea_at dt_X1_openCases 5 rfl) rfl ?_
  refine ev_getI (ea_at dt_X1_openCases 6 rfl) fl_X1_15 ha.1 rfl ?_
  refine ev_i (fun x1 => ?_)
  refine ev_icmp_ge (tgt := 33) (ea_at dt_X1_openCases 7 rfl) rfl (fun _ => ?_) (fun _ => ?_)
  · exact ev_leaf (fun h => ea_drop (l' := [none, some (.int s4.1), none]) ⟨Or.inl rfl, Or.inr rfl, Or.inl rfl, trivial⟩ (hX (s4.1, s4.2.2) h))
  · refine ev_aload_n (ea_at dt_X1_openCases 8 rfl) rfl ?_
    refine ev_getR (ea_at dt_X1_openCases 9 rfl) fl_X1_31 ha.1 rfl ?_
    refine ev_iload_n (ea_at dt_X1_openCases 10 rfl) rfl ?_
    refine ev_iaload (ea_at dt_X1_openCases 11 rfl) ha.2.2.2.2.2 (by decide) ?_
    refine ev_i (fun x2 => ?_)
    refine ev_if_ne (tgt := 27) (ea_at dt_X1_openCases 12 rfl) rfl (fun _ => ?_) (fun _ => ?_)
    · refine ev_iload_n (ea_at dt_X1_openCases 13 rfl) rfl ?_
      refine ev_iconst (ea_at dt_X1_openCases 14 rfl) ic_1 ?_
      refine ev_iload_n (ea_at dt_X1_openCases 15 rfl) rfl ?_
      refine ev_ishl (ea_at dt_X1_openCases 16 rfl) ?_
      refine ev_ior (ea_at dt_X1_openCases 17 rfl) ?_
      refine ev_i (fun x3 => ?_)
      refine ev_istore_n (ls' := [some (.ref a), some (.int x3), some (.int s4.2.1)]) (ea_at dt_X1_openCases 18 rfl) (ea_lt rfl) rfl ?_
      exact ev_drop (l' := [some (.ref a), some (.int x3), some (.int s4.2.1)]) ⟨Or.inr rfl, Or.inr rfl, Or.inr rfl, trivial⟩ (jn_X1_openCases_27 G a x3 s4.2.1 s4.2.2 ha hC hX)
    · exact ev_drop (l' := [some (.ref a), some (.int s4.1), some (.int s4.2.1)]) ⟨Or.inr rfl, Or.inr rfl, Or.inr rfl, trivial⟩ (jn_X1_openCases_27 G a s4.1 s4.2.1 s4.2.2 ha hC hX)
set_option maxHeartbeats 300000 in
theorem ok_X1_openCases (G : ea_G) (a : Nat) (m : ea_M) (ha : ea_isBench a) (rZ : Int32) (mZ : ea_M) (hZ : f_X1_openCases a m = some (rZ, mZ)) : ea_Met G yX1_openCases F_X1_openCases [.ref a] m (0, rZ, mZ) := by
  refine ea_met (F := F_X1_openCases) (by decide +kernel) rfl rfl (Nat.le_of_ble_eq_true rfl) (by simp only [List.mem_cons, List.not_mem_nil, or_false]; intro v hv; rcases hv with rfl <;> rfl) ((?_ : ea_E G F_X1_openCases (0, rZ, mZ) 0 [some (.ref a), none, none] [] m 0 0 (f_X1_openCases a m) (fun t => t = (rZ, mZ))) (rZ, mZ) hZ rfl)
  have hR : ∀ t : Int32 × ea_M, t = (rZ, mZ) → ((0, rZ, mZ) : ea_O) = (0, t) := fun t h => by rw [h]
  unfold f_X1_openCases
  refine ev_iconst (ea_at dt_X1_openCases 0 rfl) ic_0 ?_
  refine ev_istore_n (ls' := [some (.ref a), some (.int 0), none]) (ea_at dt_X1_openCases 1 rfl) (ea_lt rfl) rfl ?_
  refine ev_iconst (ea_at dt_X1_openCases 2 rfl) ic_0 ?_
  refine ev_istore_n (ls' := [some (.ref a), some (.int 0), some (.int 0)]) (ea_at dt_X1_openCases 3 rfl) (ea_lt rfl) rfl ?_
  refine ev_drop (l' := [some (.ref a), some (.int 0), some (.int 0)]) ⟨Or.inr rfl, Or.inr rfl, Or.inr rfl, trivial⟩ ?_
  refine ev_bind (lp_X1_openCases_4 G a ha  (fun x4s h => ?_) ea_fuel (0, 0, m))
  obtain ⟨t1, e1, q1⟩ := h
  refine (?_ : ea_E G F_X1_openCases (0, rZ, mZ) 33 [none, some (.int x4s.1), none] [] x4s.2 0 0 _ (fun t => t = (rZ, mZ))) t1 e1 q1
  refine ev_iload_n (ea_at dt_X1_openCases 21 rfl) rfl ?_
  exact ev_iret (ea_at dt_X1_openCases 22 rfl) rfl ⟨by decide, by decide⟩ (fun h => hR _ h)
def F_X2_isCalm : ea_F := (ea_rm 8 0 0, cX2_isCalm, RX2, some .boolean, 2, [], 0, 0)
def D_X2_isCalm : List (Nat × Instr × Nat) := [(0, .iconst 0, 1), (1, .istore_n 1, 1), (2, .iload_n 1, 1), (3, .bipush 13, 2), (5, .if_icmp .ge 20, 3), (8, .aload_n 0, 1), (9, .getfield 39, 3), (12, .iload_n 1, 1), (13, .iaload, 1), (14, .ifCond .eq 5, 3), (17, .iconst 0, 1), (18, .ireturn, 1), (19, .iinc 1 1, 3), (22, .goto (-20), 3), (25, .iconst 1, 1), (26, .ireturn, 1)]
theorem dt_X2_isCalm : ∀ q ∈ D_X2_isCalm, decode cX2_isCalm q.1 = .ok q.2 := by decide +kernel
theorem mv_X2_isCalm : ea_MV yX2_isCalm (F_X2_isCalm) 0 := ⟨⟨List.mem_append_right _ (List.mem_of_getElem? (i := 2) (by decide +kernel)), List.mem_append_right _ (List.mem_of_getElem? (i := 500) (by decide +kernel)), ⟨by decide, by decide⟩, by decide +kernel⟩, List.mem_append_right _ (List.mem_of_getElem? (i := 498) (by decide +kernel)), List.mem_append_right _ (List.mem_of_getElem? (i := 499) (by decide +kernel))⟩
def f_X2_isCalm_s2 (a : Nat)  (s2 : Int32 × ea_M) : Option ((Int32 × ea_M) ⊕ ((Int32 × ea_M) ⊕ (ea_M))) :=
  if 13 ≤ s2.1 then
  some (.inr (.inr s2.2))
  else
  ea_g s2.1 13 (ea_bd (s2.2 (a + 1) (Int32.toNatClampNeg s2.1)) fun x1 =>
  if x1 = 0 then
  some (.inl (s2.1 + 1, s2.2))
  else
  some (.inr (.inl (0, s2.2))))
def f_X2_isCalm (a : Nat) (m : ea_M) : Option (Int32 × ea_M) :=
  ea_sl (ea_loop (f_X2_isCalm_s2 a) ea_fuel (0, m)) (fun t => some t) (fun x2s =>
  some (1, x2s))
set_option maxHeartbeats 300000 in
theorem lp_X2_isCalm_2 (G : ea_G) {res : ea_O}  (a : Nat) (ha : ea_isCourt a) {Ψ : ((Int32 × ea_M) ⊕ (ea_M)) → Prop} (hR : ∀ t : Int32 × ea_M, Ψ (.inl t) → res = (0, t)) (hX : ∀ x2s : ea_M, Ψ (.inr x2s) → ea_Ev G F_X2_isCalm res 25 [none, none] [] x2s 0 0) : ∀ (f : Nat) (s2 : Int32 × ea_M), ea_E G F_X2_isCalm res 2 [some (.ref a), some (.int s2.1)] [] s2.2 0 0 (ea_loop (f_X2_isCalm_s2 a) f s2) Ψ := by
  refine ev_loop (G := G) (F := F_X2_isCalm) (res := res) (pc := 2) (st := []) (k := 0) (n := 0) (step := (f_X2_isCalm_s2 a)) (Ψ := Ψ) (fun (s2 : Int32 × ea_M) => [some (.ref a), some (.int s2.1)]) (fun (s2 : Int32 × ea_M) => s2.2) (fun s2 => ?_)
  have hC : ∀ s2 : Int32 × ea_M, (Sum.elim (fun s2 : Int32 × ea_M => ea_Ev G F_X2_isCalm res 2 [some (.ref a), some (.int s2.1)] [] s2.2 0 0) Ψ) (.inl s2) → ea_Ev G F_X2_isCalm res 2 [some (.ref a), some (.int s2.1)] [] s2.2 0 0 := fun _ h => h
  have hR : ∀ t : Int32 × ea_M, (Sum.elim (fun s2 : Int32 × ea_M => ea_Ev G F_X2_isCalm res 2 [some (.ref a), some (.int s2.1)] [] s2.2 0 0) Ψ) (.inr (.inl t)) → res = (0, t) := hR
  have hX : ∀ x2s : ea_M, (Sum.elim (fun s2 : Int32 × ea_M => ea_Ev G F_X2_isCalm res 2 [some (.ref a), some (.int s2.1)] [] s2.2 0 0) Ψ) (.inr (.inr x2s)) → ea_Ev G F_X2_isCalm res 25 [none, none] [] x2s 0 0 := hX
  unfold f_X2_isCalm_s2
  refine ev_iload_n (ea_at dt_X2_isCalm 2 rfl) rfl ?_
  refine ev_bipush (ea_at dt_X2_isCalm 3 rfl) bp_13 ?_
  refine ev_icmp_ge (tgt := 25) (ea_at dt_X2_isCalm 4 rfl) rfl (fun _ => ?_) (fun _ => ?_)
  · exact ev_leaf (fun h => ea_drop (l' := [none, none]) ⟨Or.inl rfl, Or.inl rfl, trivial⟩ (hX s2.2 h))
  · refine ev_aload_n (ea_at dt_X2_isCalm 5 rfl) rfl ?_
    refine ev_getR (ea_at dt_X2_isCalm 6 rfl) fl_X2_39 ha.1 rfl ?_
    refine ev_iload_n (ea_at dt_X2_isCalm 7 rfl) rfl ?_
    refine ev_iaload (ea_at dt_X2_isCalm 8 rfl) ha.2.1 (by decide) ?_
    refine ev_i (fun x1 => ?_)
    refine ev_if_eq (tgt := 19) (ea_at dt_X2_isCalm 9 rfl) rfl (fun _ => ?_) (fun _ => ?_)
    · refine ev_iinc (ls' := [some (.ref a), some (.int (s2.1 + 1))]) (ea_at dt_X2_isCalm 12 rfl) rfl (congrArg (fun z => _ + z) ic_1) (ea_lt rfl) rfl ?_
      refine ev_goto (tgt := 2) (ea_at dt_X2_isCalm 13 rfl) rfl ?_
      exact ev_leaf (fun h => ea_drop (l' := [some (.ref a), some (.int (s2.1 + 1))]) ⟨Or.inr rfl, Or.inr rfl, trivial⟩ (hC (s2.1 + 1, s2.2) h))
    · refine ev_iconst (ea_at dt_X2_isCalm 10 rfl) ic_0 ?_
      exact ev_zret (by decide) (ea_at dt_X2_isCalm 11 rfl) rfl ⟨by decide, by decide⟩ (fun h => hR _ h)
set_option maxHeartbeats 300000 in
theorem ok_X2_isCalm (G : ea_G) (a : Nat) (m : ea_M) (ha : ea_isCourt a) (rZ : Int32) (mZ : ea_M) (hZ : f_X2_isCalm a m = some (rZ, mZ)) : ea_Met G yX2_isCalm F_X2_isCalm [.ref a] m (0, rZ, mZ) := by
  refine ea_met (F := F_X2_isCalm) (by decide +kernel) rfl rfl (Nat.le_of_ble_eq_true rfl) (by simp only [List.mem_cons, List.not_mem_nil, or_false]; intro v hv; rcases hv with rfl <;> rfl) ((?_ : ea_E G F_X2_isCalm (0, rZ, mZ) 0 [some (.ref a), none] [] m 0 0 (f_X2_isCalm a m) (fun t => t = (rZ, mZ))) (rZ, mZ) hZ rfl)
  have hR : ∀ t : Int32 × ea_M, t = (rZ, mZ) → ((0, rZ, mZ) : ea_O) = (0, t) := fun t h => by rw [h]
  unfold f_X2_isCalm
  refine ev_iconst (ea_at dt_X2_isCalm 0 rfl) ic_0 ?_
  refine ev_istore_n (ls' := [some (.ref a), some (.int 0)]) (ea_at dt_X2_isCalm 1 rfl) (ea_lt rfl) rfl ?_
  refine ev_drop (l' := [some (.ref a), some (.int 0)]) ⟨Or.inr rfl, Or.inr rfl, trivial⟩ ?_
  refine ev_sl (lp_X2_isCalm_2 G a ha (fun t h => by obtain ⟨t1, e1, q1⟩ := h; cases e1; exact hR t q1) (fun x2s h => ?_) ea_fuel (0, m))
  obtain ⟨t1, e1, q1⟩ := h
  refine (?_ : ea_E G F_X2_isCalm (0, rZ, mZ) 25 [none, none] [] x2s 0 0 _ (fun t => t = (rZ, mZ))) t1 e1 q1
  refine ev_iconst (ea_at dt_X2_isCalm 14 rfl) ic_1 ?_
  exact ev_zret (by decide) (ea_at dt_X2_isCalm 15 rfl) rfl ⟨by decide, by decide⟩ (fun h => hR _ h)
def F_X11_count : ea_F := (ea_rm 9 0 0, cX11_count, RX11, some .int, 2, [], 0, 0)
def D_X11_count : List (Nat × Instr × Nat) := [(0, .iload_n 1, 1), (1, .tableswitch 212 0 14 #[75, 83, 94, 105, 113, 121, 129, 137, 145, 153, 161, 169, 180, 196, 207], 75), (76, .aload_n 0, 1), (77, .getfield 23, 3), (80, .getfield 233, 3), (83, .ireturn, 1), (84, .aload_n 0, 1), (85, .getfield 23, 3), (88, .getfield 180, 3), (91, .getfield 236, 3), (94, .ireturn, 1), (95, .aload_n 0, 1), (96, .getfield 23, 3), (99, .getfield 180, 3), (102, .getfield 239, 3), (105, .ireturn, 1), (106, .aload_n 0, 1), (107, .getfield 23, 3), (110, .getfield 136, 3), (113, .ireturn, 1), (114, .aload_n 0, 1), (115, .getfield 30, 3), (118, .getfield 154, 3), (121, .ireturn, 1), (122, .aload_n 0, 1), (123, .getfield 23, 3), (126, .getfield 242, 3), (129, .ireturn, 1), (130, .aload_n 0, 1), (131, .getfield 23, 3), (134, .getfield 245, 3), (137, .ireturn, 1), (138, .aload_n 0, 1), (139, .getfield 23, 3), (142, .getfield 248, 3), (145, .ireturn, 1), (146, .aload_n 0, 1), (147, .getfield 23, 3), (150, .getfield 251, 3), (153, .ireturn, 1), (154, .aload_n 0, 1), (155, .getfield 23, 3), (158, .getfield 254, 3), (161, .ireturn, 1), (162, .aload_n 0, 1), (163, .getfield 23, 3), (166, .getfield 257, 3), (169, .ireturn, 1), (170, .aload_n 0, 1), (171, .getfield 23, 3), (174, .getfield 180, 3), (177, .invokevirtual 260, 3), (180, .ireturn, 1), (181, .aload_n 0, 1), (182, .getfield 23, 3), (185, .invokevirtual 263, 3), (188, .ifCond .eq 7, 3), (191, .iconst 1, 1), (192, .goto 4, 3), (195, .iconst 0, 1), (196, .ireturn, 1), (197, .aload_n 0, 1), (198, .getfield 23, 3), (201, .getfield 267, 3), (204, .getfield 271, 3), (207, .ireturn, 1), (208, .aload_n 0, 1), (209, .getfield 72, 3), (212, .ireturn, 1), (213, .iconst (-1), 1), (214, .ireturn, 1)]
theorem dt_X11_count : ∀ q ∈ D_X11_count, decode cX11_count q.1 = .ok q.2 := by decide +kernel
theorem mv_X11_count : ea_MV yX11_count (F_X11_count) 1 := ⟨⟨List.mem_append_right _ (List.mem_of_getElem? (i := 1) (by decide +kernel)), List.mem_append_right _ (List.mem_of_getElem? (i := 492) (by decide +kernel)), ⟨by decide, by decide⟩, by decide +kernel⟩, List.mem_append_right _ (List.mem_of_getElem? (i := 490) (by decide +kernel)), List.mem_append_right _ (List.mem_of_getElem? (i := 491) (by decide +kernel))⟩
def f_X11_count (p1 : Int32) (m : ea_M) : Option (Int32 × ea_M) :=
  if p1 = 0 then
  ea_bd (m 2 8) fun x1 =>
  some (x1, m)
  else
  if p1 = 1 then
  ea_bd (m 8 0) fun x2 =>
  some (x2, m)
  else
  if p1 = 2 then
  ea_bd (m 8 1) fun x3 =>
  some (x3, m)
  else
  if p1 = 3 then
  ea_bd (m 2 7) fun x4 =>
  some (x4, m)
  else
  if p1 = 4 then
  ea_bd (m 16 0) fun x5 =>
  some (x5, m)
  else
  if p1 = 5 then
  ea_bd (m 2 5) fun x6 =>
  some (x6, m)
  else
  if p1 = 6 then
  ea_bd (m 2 4) fun x7 =>
  some (x7, m)
  else
  if p1 = 7 then
  ea_bd (m 2 0) fun x8 =>
  some (x8, m)
  else
  if p1 = 8 then
  ea_bd (m 2 1) fun x9 =>
  some (x9, m)
  else
  if p1 = 9 then
  ea_bd (m 2 2) fun x10 =>
  some (x10, m)
  else
  if p1 = 10 then
  ea_bd (m 2 3) fun x11 =>
  some (x11, m)
  else
  if p1 = 11 then
  ea_cl (f_X1_openCases 8 m) fun r13 m12 =>
  some (r13, m12)
  else
  if p1 = 12 then
  ea_cl (f_X2_isCalm 2 m) fun r15 m14 =>
  if r15 = 0 then
  some (0, m14)
  else
  some (1, m14)
  else
  if p1 = 13 then
  ea_bd (m 14 0) fun x16 =>
  some (x16, m)
  else
  if p1 = 14 then
  ea_bd (m 0 13) fun x17 =>
  some (x17, m)
  else
  some ((-1), m)
set_option maxHeartbeats 300000 in
theorem ok_X11_count (G : ea_G) (p1 : Int32) (m : ea_M)  (rZ : Int32) (mZ : ea_M) (hZ : f_X11_count p1 m = some (rZ, mZ)) : ea_Met G yX11_count F_X11_count [.ref 0, .int p1] m (0, rZ, mZ) := by
  refine ea_met (F := F_X11_count) (by decide +kernel) rfl rfl (Nat.le_of_ble_eq_true rfl) (by simp only [List.mem_cons, List.not_mem_nil, or_false]; intro v hv; rcases hv with rfl | rfl <;> rfl) ((?_ : ea_E G F_X11_count (0, rZ, mZ) 0 [some (.ref 0), some (.int p1)] [] m 0 0 (f_X11_count p1 m) (fun t => t = (rZ, mZ))) (rZ, mZ) hZ rfl)
  have hR : ∀ t : Int32 × ea_M, t = (rZ, mZ) → ((0, rZ, mZ) : ea_O) = (0, t) := fun t h => by rw [h]
  unfold f_X11_count
  refine ev_iload_n (ea_at dt_X11_count 0 rfl) rfl ?_
  refine ev_ite (fun n0 => ?_) (fun n0 => ?_)
  · refine ev_tsw (c := 0) (tgt := 76) n0 (ea_at dt_X11_count 1 rfl) (by decide) (by decide) rfl rfl ?_
    refine ev_aload_n (ea_at dt_X11_count 2 rfl) rfl ?_
    refine ev_getR (ea_at dt_X11_count 3 rfl) fl_X11_23 sh_0 rfl ?_
    refine ev_getI (ea_at dt_X11_count 4 rfl) fl_X11_233 sh_2 rfl ?_
    refine ev_i (fun x1 => ?_)
    exact ev_iret (ea_at dt_X11_count 5 rfl) rfl ⟨by decide, by decide⟩ (fun h => hR _ h)
  · refine ev_ite (fun n1 => ?_) (fun n1 => ?_)
    · refine ev_tsw (c := 1) (tgt := 84) n1 (ea_at dt_X11_count 1 rfl) (by decide) (by decide) rfl rfl ?_
      refine ev_aload_n (ea_at dt_X11_count 6 rfl) rfl ?_
      refine ev_getR (ea_at dt_X11_count 7 rfl) fl_X11_23 sh_0 rfl ?_
      refine ev_getR (ea_at dt_X11_count 8 rfl) fl_X11_180 sh_2 rfl ?_
      refine ev_getI (ea_at dt_X11_count 9 rfl) fl_X11_236 sh_8 rfl ?_
      refine ev_i (fun x2 => ?_)
      exact ev_iret (ea_at dt_X11_count 10 rfl) rfl ⟨by decide, by decide⟩ (fun h => hR _ h)
    · refine ev_ite (fun n2 => ?_) (fun n2 => ?_)
      · refine ev_tsw (c := 2) (tgt := 95) n2 (ea_at dt_X11_count 1 rfl) (by decide) (by decide) rfl rfl ?_
        refine ev_aload_n (ea_at dt_X11_count 11 rfl) rfl ?_
        refine ev_getR (ea_at dt_X11_count 12 rfl) fl_X11_23 sh_0 rfl ?_
        refine ev_getR (ea_at dt_X11_count 13 rfl) fl_X11_180 sh_2 rfl ?_
        refine ev_getI (ea_at dt_X11_count 14 rfl) fl_X11_239 sh_8 rfl ?_
        refine ev_i (fun x3 => ?_)
        exact ev_iret (ea_at dt_X11_count 15 rfl) rfl ⟨by decide, by decide⟩ (fun h => hR _ h)
      · refine ev_ite (fun n3 => ?_) (fun n3 => ?_)
        · refine ev_tsw (c := 3) (tgt := 106) n3 (ea_at dt_X11_count 1 rfl) (by decide) (by decide) rfl rfl ?_
          refine ev_aload_n (ea_at dt_X11_count 16 rfl) rfl ?_
          refine ev_getR (ea_at dt_X11_count 17 rfl) fl_X11_23 sh_0 rfl ?_
          refine ev_getI (ea_at dt_X11_count 18 rfl) fl_X11_136 sh_2 rfl ?_
          refine ev_i (fun x4 => ?_)
          exact ev_iret (ea_at dt_X11_count 19 rfl) rfl ⟨by decide, by decide⟩ (fun h => hR _ h)
        · refine ev_ite (fun n4 => ?_) (fun n4 => ?_)
          · refine ev_tsw (c := 4) (tgt := 114) n4 (ea_at dt_X11_count 1 rfl) (by decide) (by decide) rfl rfl ?_
            refine ev_aload_n (ea_at dt_X11_count 20 rfl) rfl ?_
            refine ev_getR (ea_at dt_X11_count 21 rfl) fl_X11_30 sh_0 rfl ?_
            refine ev_getI (ea_at dt_X11_count 22 rfl) fl_X11_154 sh_16 rfl ?_
            refine ev_i (fun x5 => ?_)
            exact ev_iret (ea_at dt_X11_count 23 rfl) rfl ⟨by decide, by decide⟩ (fun h => hR _ h)
          · refine ev_ite (fun n5 => ?_) (fun n5 => ?_)
            · refine ev_tsw (c := 5) (tgt := 122) n5 (ea_at dt_X11_count 1 rfl) (by decide) (by decide) rfl rfl ?_
              refine ev_aload_n (ea_at dt_X11_count 24 rfl) rfl ?_
              refine ev_getR (ea_at dt_X11_count 25 rfl) fl_X11_23 sh_0 rfl ?_
              refine ev_getI (ea_at dt_X11_count 26 rfl) fl_X11_242 sh_2 rfl ?_
              refine ev_i (fun x6 => ?_)
              exact ev_iret (ea_at dt_X11_count 27 rfl) rfl ⟨by decide, by decide⟩ (fun h => hR _ h)
            · refine ev_ite (fun n6 => ?_) (fun n6 => ?_)
              · refine ev_tsw (c := 6) (tgt := 130) n6 (ea_at dt_X11_count 1 rfl) (by decide) (by decide) rfl rfl ?_
                refine ev_aload_n (ea_at dt_X11_count 28 rfl) rfl ?_
                refine ev_getR (ea_at dt_X11_count 29 rfl) fl_X11_23 sh_0 rfl ?_
                refine ev_getI (ea_at dt_X11_count 30 rfl) fl_X11_245 sh_2 rfl ?_
                refine ev_i (fun x7 => ?_)
                exact ev_iret (ea_at dt_X11_count 31 rfl) rfl ⟨by decide, by decide⟩ (fun h => hR _ h)
              · refine ev_ite (fun n7 => ?_) (fun n7 => ?_)
                · refine ev_tsw (c := 7) (tgt := 138) n7 (ea_at dt_X11_count 1 rfl) (by decide) (by decide) rfl rfl ?_
                  refine ev_aload_n (ea_at dt_X11_count 32 rfl) rfl ?_
                  refine ev_getR (ea_at dt_X11_count 33 rfl) fl_X11_23 sh_0 rfl ?_
                  refine ev_getI (ea_at dt_X11_count 34 rfl) fl_X11_248 sh_2 rfl ?_
                  refine ev_i (fun x8 => ?_)
                  exact ev_iret (ea_at dt_X11_count 35 rfl) rfl ⟨by decide, by decide⟩ (fun h => hR _ h)
                · refine ev_ite (fun n8 => ?_) (fun n8 => ?_)
                  · refine ev_tsw (c := 8) (tgt := 146) n8 (ea_at dt_X11_count 1 rfl) (by decide) (by decide) rfl rfl ?_
                    refine ev_aload_n (ea_at dt_X11_count 36 rfl) rfl ?_
                    refine ev_getR (ea_at dt_X11_count 37 rfl) fl_X11_23 sh_0 rfl ?_
                    refine ev_getI (ea_at dt_X11_count 38 rfl) fl_X11_251 sh_2 rfl ?_
                    refine ev_i (fun x9 => ?_)
                    exact ev_iret (ea_at dt_X11_count 39 rfl) rfl ⟨by decide, by decide⟩ (fun h => hR _ h)
                  · refine ev_ite (fun n9 => ?_) (fun n9 => ?_)
                    · refine ev_tsw (c := 9) (tgt := 154) n9 (ea_at dt_X11_count 1 rfl) (by decide) (by decide) rfl rfl ?_
                      refine ev_aload_n (ea_at dt_X11_count 40 rfl) rfl ?_
                      refine ev_getR (ea_at dt_X11_count 41 rfl) fl_X11_23 sh_0 rfl ?_
                      refine ev_getI (ea_at dt_X11_count 42 rfl) fl_X11_254 sh_2 rfl ?_
                      refine ev_i (fun x10 => ?_)
                      exact ev_iret (ea_at dt_X11_count 43 rfl) rfl ⟨by decide, by decide⟩ (fun h => hR _ h)
                    · refine ev_ite (fun n10 => ?_) (fun n10 => ?_)
                      · refine ev_tsw (c := 10) (tgt := 162) n10 (ea_at dt_X11_count 1 rfl) (by decide) (by decide) rfl rfl ?_
                        refine ev_aload_n (ea_at dt_X11_count 44 rfl) rfl ?_
                        refine ev_getR (ea_at dt_X11_count 45 rfl) fl_X11_23 sh_0 rfl ?_
                        refine ev_getI (ea_at dt_X11_count 46 rfl) fl_X11_257 sh_2 rfl ?_
                        refine ev_i (fun x11 => ?_)
                        exact ev_iret (ea_at dt_X11_count 47 rfl) rfl ⟨by decide, by decide⟩ (fun h => hR _ h)
                      · refine ev_ite (fun n11 => ?_) (fun n11 => ?_)
                        · refine ev_tsw (c := 11) (tgt := 170) n11 (ea_at dt_X11_count 1 rfl) (by decide) (by decide) rfl rfl ?_
                          refine ev_aload_n (ea_at dt_X11_count 48 rfl) rfl ?_
                          refine ev_getR (ea_at dt_X11_count 49 rfl) fl_X11_23 sh_0 rfl ?_
                          refine ev_getR (ea_at dt_X11_count 50 rfl) fl_X11_180 sh_2 rfl ?_
                          refine ev_clI (F1 := F_X1_openCases) (fun rY mY hY => ea_runV (As := []) (ea_at dt_X11_count 51 rfl) ml_X11_260 mv_X1_openCases (ok_X1_openCases G 8 m is_Bench_8 rY mY hY) sh_8 rfl rfl rfl (Nat.le_of_ble_eq_true rfl) rfl) rfl (fun r13 m12 => ?_)
                          exact ev_iret (ea_at dt_X11_count 52 rfl) rfl ⟨by decide, by decide⟩ (fun h => hR _ h)
                        · refine ev_ite (fun n12 => ?_) (fun n12 => ?_)
                          · refine ev_tsw (c := 12) (tgt := 181) n12 (ea_at dt_X11_count 1 rfl) (by decide) (by decide) rfl rfl ?_
                            refine ev_aload_n (ea_at dt_X11_count 53 rfl) rfl ?_
                            refine ev_getR (ea_at dt_X11_count 54 rfl) fl_X11_23 sh_0 rfl ?_
                            refine ev_clI (F1 := F_X2_isCalm) (fun rY mY hY => ea_runV (As := []) (ea_at dt_X11_count 55 rfl) ml_X11_263 mv_X2_isCalm (ok_X2_isCalm G 2 m is_Court_2 rY mY hY) sh_2 rfl rfl rfl (Nat.le_of_ble_eq_true rfl) rfl) rfl (fun r15 m14 => ?_)
                            refine ev_if_eq (tgt := 195) (ea_at dt_X11_count 56 rfl) rfl (fun _ => ?_) (fun _ => ?_)
                            · refine ev_iconst (ea_at dt_X11_count 59 rfl) ic_0 ?_
                              exact ev_iret (ea_at dt_X11_count 60 rfl) rfl ⟨by decide, by decide⟩ (fun h => hR _ h)
                            · refine ev_iconst (ea_at dt_X11_count 57 rfl) ic_1 ?_
                              refine ev_goto (tgt := 196) (ea_at dt_X11_count 58 rfl) rfl ?_
                              exact ev_iret (ea_at dt_X11_count 60 rfl) rfl ⟨by decide, by decide⟩ (fun h => hR _ h)
                          · refine ev_ite (fun n13 => ?_) (fun n13 => ?_)
                            · refine ev_tsw (c := 13) (tgt := 197) n13 (ea_at dt_X11_count 1 rfl) (by decide) (by decide) rfl rfl ?_
                              refine ev_aload_n (ea_at dt_X11_count 61 rfl) rfl ?_
                              refine ev_getR (ea_at dt_X11_count 62 rfl) fl_X11_23 sh_0 rfl ?_
                              refine ev_getR (ea_at dt_X11_count 63 rfl) fl_X11_267 sh_2 rfl ?_
                              refine ev_getI (ea_at dt_X11_count 64 rfl) fl_X11_271 sh_14 rfl ?_
                              refine ev_i (fun x16 => ?_)
                              exact ev_iret (ea_at dt_X11_count 65 rfl) rfl ⟨by decide, by decide⟩ (fun h => hR _ h)
                            · refine ev_ite (fun n14 => ?_) (fun n14 => ?_)
                              · refine ev_tsw (c := 14) (tgt := 208) n14 (ea_at dt_X11_count 1 rfl) (by decide) (by decide) rfl rfl ?_
                                refine ev_aload_n (ea_at dt_X11_count 66 rfl) rfl ?_
                                refine ev_getI (ea_at dt_X11_count 67 rfl) fl_X11_72 sh_0 rfl ?_
                                refine ev_i (fun x17 => ?_)
                                exact ev_iret (ea_at dt_X11_count 68 rfl) rfl ⟨by decide, by decide⟩ (fun h => hR _ h)
                              · refine ev_tswOut (cnt := 15) (tgt := 213) (ea_at dt_X11_count 1 rfl) rfl (ea_nS (ea_nS (ea_nS (ea_nS (ea_nS (ea_nS (ea_nS (ea_nS (ea_nS (ea_nS (ea_nS (ea_nS (ea_nS (ea_nS (ea_nS (ea_nZ) (v := 0) (by decide) n0) (v := 1) (by decide) n1) (v := 2) (by decide) n2) (v := 3) (by decide) n3) (v := 4) (by decide) n4) (v := 5) (by decide) n5) (v := 6) (by decide) n6) (v := 7) (by decide) n7) (v := 8) (by decide) n8) (v := 9) (by decide) n9) (v := 10) (by decide) n10) (v := 11) (by decide) n11) (v := 12) (by decide) n12) (v := 13) (by decide) n13) (v := 14) (by decide) n14) rfl ?_
                                refine ev_iconst (ea_at dt_X11_count 69 rfl) ic_m1 ?_
                                exact ev_iret (ea_at dt_X11_count 70 rfl) rfl ⟨by decide, by decide⟩ (fun h => hR _ h)
def F_X11_remember : ea_F := (ea_rm 10 0 0, cX11_remember, RX11, none, 1, [], 0, 0)
def D_X11_remember : List (Nat × Instr × Nat) := [(0, .aload_n 0, 1), (1, .getfield 68, 3), (4, .aload_n 0, 1), (5, .getfield 75, 3), (8, .aaload, 1), (9, .aload_n 0, 1), (10, .getfield 23, 3), (13, .invokevirtual 121, 3), (16, .aload_n 0, 1), (17, .aload_n 0, 1), (18, .getfield 75, 3), (21, .iconst 1, 1), (22, .iadd, 1), (23, .bipush 12, 2), (25, .irem, 1), (26, .putfield 75, 3), (29, .aload_n 0, 1), (30, .bipush 12, 2), (32, .aload_n 0, 1), (33, .getfield 72, 3), (36, .iconst 1, 1), (37, .iadd, 1), (38, .invokestatic 311, 3), (41, .putfield 72, 3), (44, .return_, 1)]
theorem dt_X11_remember : ∀ q ∈ D_X11_remember, decode cX11_remember q.1 = .ok q.2 := by decide +kernel
theorem mv_X11_remember : ea_MV yX11_remember (F_X11_remember) 0 := ⟨⟨List.mem_append_right _ (List.mem_of_getElem? (i := 1) (by decide +kernel)), List.mem_append_right _ (List.mem_of_getElem? (i := 1098) (by decide +kernel)), ⟨by decide, by decide⟩, by decide +kernel⟩, List.mem_append_right _ (List.mem_of_getElem? (i := 1097) (by decide +kernel)), List.mem_append_left _ (List.mem_of_getElem? (i := 31) (by decide +kernel))⟩
def f_X11_remember (m : ea_M) : Option (Int32 × ea_M) :=
  ea_bd (m 0 14) fun x1 =>
  ea_g x1 12 (ea_bd (ea_rCourt.getD (Int32.toNatClampNeg x1) 0) fun a2 =>
  ea_cl (f_X2_copyFrom a2 2 m) fun r4 m3 =>
  ea_bd (m3 0 14) fun x5 =>
  ea_bd ((x5 + 1) - (x5 + 1) / 12 * 12) fun x6 =>
  ea_bd (ea_st m3 0 14 x6) fun m7 =>
  ea_bd (m7 0 13) fun x8 =>
  ea_bd (ea_min 12 (x8 + 1)) fun x9 =>
  ea_bd (ea_st m7 0 13 x9) fun m10 =>
  some (0, m10))
set_option maxHeartbeats 300000 in
theorem ok_X11_remember (G : ea_G) (m : ea_M)  (rZ : Int32) (mZ : ea_M) (hZ : f_X11_remember m = some (rZ, mZ)) : ea_Met G yX11_remember F_X11_remember [.ref 0] m (0, rZ, mZ) := by
  refine ea_met (F := F_X11_remember) (by decide +kernel) rfl rfl (Nat.le_of_ble_eq_true rfl) (by simp only [List.mem_cons, List.not_mem_nil, or_false]; intro v hv; rcases hv with rfl <;> rfl) ((?_ : ea_E G F_X11_remember (0, rZ, mZ) 0 [some (.ref 0)] [] m 0 0 (f_X11_remember m) (fun t => t = (rZ, mZ))) (rZ, mZ) hZ rfl)
  have hR : ∀ t : Int32 × ea_M, t = (rZ, mZ) → ((0, rZ, mZ) : ea_O) = (0, t) := fun t h => by rw [h]
  unfold f_X11_remember
  refine ev_aload_n (ea_at dt_X11_remember 0 rfl) rfl ?_
  refine ev_getR (ea_at dt_X11_remember 1 rfl) fl_X11_68 sh_0 rfl ?_
  refine ev_aload_n (ea_at dt_X11_remember 2 rfl) rfl ?_
  refine ev_getI (ea_at dt_X11_remember 3 rfl) fl_X11_75 sh_0 rfl ?_
  refine ev_i (fun x1 => ?_)
  refine ev_aaloadP (rs := ea_rCourt) (P := ea_isCourt) ea_rCourt_is (ea_at dt_X11_remember 4 rfl) sh_72 rfl (fun a2 ha2 => ?_)
  refine ev_aload_n (ea_at dt_X11_remember 5 rfl) rfl ?_
  refine ev_getR (ea_at dt_X11_remember 6 rfl) fl_X11_23 sh_0 rfl ?_
  refine ev_clU (F1 := F_X2_copyFrom) (fun rY mY hY => ea_runV (As := [.ref 2]) (ea_at dt_X11_remember 7 rfl) ml_X11_121 mv_X2_copyFrom (ok_X2_copyFrom G a2 2 m ha2 is_Court_2 rY mY hY) ha2.1 rfl rfl rfl (Nat.le_of_ble_eq_true rfl) rfl) rfl (fun r4 m3 => ?_)
  refine ev_aload_n (ea_at dt_X11_remember 8 rfl) rfl ?_
  refine ev_aload_n (ea_at dt_X11_remember 9 rfl) rfl ?_
  refine ev_getI (ea_at dt_X11_remember 10 rfl) fl_X11_75 sh_0 rfl ?_
  refine ev_i (fun x5 => ?_)
  refine ev_iconst (ea_at dt_X11_remember 11 rfl) ic_1 ?_
  refine ev_iadd (ea_at dt_X11_remember 12 rfl) ?_
  refine ev_bipush (ea_at dt_X11_remember 13 rfl) bp_12 ?_
  refine ev_irem (ea_at dt_X11_remember 14 rfl) (by decide) ?_
  refine ev_i (fun x6 => ?_)
  refine ev_putI (ea_at dt_X11_remember 15 rfl) fl_X11_75 fp_11_14 sh_0 rfl ?_
  refine ev_m (fun m7 => ?_)
  refine ev_aload_n (ea_at dt_X11_remember 16 rfl) rfl ?_
  refine ev_bipush (ea_at dt_X11_remember 17 rfl) bp_12 ?_
  refine ev_aload_n (ea_at dt_X11_remember 18 rfl) rfl ?_
  refine ev_getI (ea_at dt_X11_remember 19 rfl) fl_X11_72 sh_0 rfl ?_
  refine ev_i (fun x8 => ?_)
  refine ev_iconst (ea_at dt_X11_remember 20 rfl) ic_1 ?_
  refine ev_iadd (ea_at dt_X11_remember 21 rfl) ?_
  refine ev_mmin (ea_at dt_X11_remember 22 rfl) ml_X11_311 ea_maW_min ⟨by decide, Nat.le_of_ble_eq_true rfl, by decide, by decide⟩ ?_
  refine ev_i (fun x9 => ?_)
  refine ev_putI (ea_at dt_X11_remember 23 rfl) fl_X11_72 fp_11_13 sh_0 rfl ?_
  refine ev_m (fun m10 => ?_)
  exact ev_vret (ea_at dt_X11_remember 24 rfl) rfl ⟨by decide, by decide⟩ (fun h => ⟨0, hR _ h⟩)
def F_X1_add : ea_F := (ea_rm 9 0 0, cX1_add, RX1, some .int, 6, [], 0, 0)
def D_X1_add : List (Nat × Instr × Nat) := [(0, .aload_n 0, 1), (1, .iload_n 1, 1), (2, .iload_n 2, 1), (3, .invokevirtual 40, 3), (6, .istore 4, 2), (8, .iconst 0, 1), (9, .bipush 99, 2), (11, .iload 4, 2), (13, .iload_n 3, 1), (14, .iadd, 1), (15, .invokestatic 44, 3), (18, .invokestatic 49, 3), (21, .istore 5, 2), (23, .aload_n 0, 1), (24, .getfield 18, 3), (27, .iload_n 1, 1), (28, .bipush 6, 2), (30, .imul, 1), (31, .iload_n 2, 1), (32, .iadd, 1), (33, .iload 5, 2), (35, .iastore, 1), (36, .iload 5, 2), (38, .iload 4, 2), (40, .isub, 1), (41, .ireturn, 1)]
theorem dt_X1_add : ∀ q ∈ D_X1_add, decode cX1_add q.1 = .ok q.2 := by decide +kernel
theorem mv_X1_add : ea_MV yX1_add (F_X1_add) 3 := ⟨⟨List.mem_append_right _ (List.mem_of_getElem? (i := 3) (by decide +kernel)), List.mem_append_right _ (List.mem_of_getElem? (i := 1103) (by decide +kernel)), ⟨by decide, by decide⟩, by decide +kernel⟩, List.mem_append_right _ (List.mem_of_getElem? (i := 1101) (by decide +kernel)), List.mem_append_right _ (List.mem_of_getElem? (i := 1102) (by decide +kernel))⟩
def f_X1_add (a : Nat) (p1 : Int32) (p2 : Int32) (p3 : Int32) (m : ea_M) : Option (Int32 × ea_M) :=
  ea_cl (f_X1_held a p1 p2 m) fun r2 m1 =>
  ea_bd (ea_min 99 (r2 + p3)) fun x3 =>
  ea_bd (ea_max 0 x3) fun x4 =>
  ea_bd ((p1 * 6) + p2) fun x5 =>
  ea_g x5 24 (ea_bd (ea_st m1 (a + 1) (Int32.toNatClampNeg x5) x4) fun m6 =>
  some (x4 - r2, m6))
set_option maxHeartbeats 300000 in
theorem ok_X1_add (G : ea_G) (a : Nat) (p1 : Int32) (p2 : Int32) (p3 : Int32) (m : ea_M) (ha : ea_isBench a) (rZ : Int32) (mZ : ea_M) (hZ : f_X1_add a p1 p2 p3 m = some (rZ, mZ)) : ea_Met G yX1_add F_X1_add [.ref a, .int p1, .int p2, .int p3] m (0, rZ, mZ) := by
  refine ea_met (F := F_X1_add) (by decide +kernel) rfl rfl (Nat.le_of_ble_eq_true rfl) (by simp only [List.mem_cons, List.not_mem_nil, or_false]; intro v hv; rcases hv with rfl | rfl | rfl | rfl <;> rfl) ((?_ : ea_E G F_X1_add (0, rZ, mZ) 0 [some (.ref a), some (.int p1), some (.int p2), some (.int p3), none, none] [] m 0 0 (f_X1_add a p1 p2 p3 m) (fun t => t = (rZ, mZ))) (rZ, mZ) hZ rfl)
  have hR : ∀ t : Int32 × ea_M, t = (rZ, mZ) → ((0, rZ, mZ) : ea_O) = (0, t) := fun t h => by rw [h]
  unfold f_X1_add
  refine ev_aload_n (ea_at dt_X1_add 0 rfl) rfl ?_
  refine ev_iload_n (ea_at dt_X1_add 1 rfl) rfl ?_
  refine ev_iload_n (ea_at dt_X1_add 2 rfl) rfl ?_
  refine ev_clI (F1 := F_X1_held) (fun rY mY hY => ea_runV (As := [.int p1, .int p2]) (ea_at dt_X1_add 3 rfl) ml_X1_40 mv_X1_held (ok_X1_held G a p1 p2 m ha rY mY hY) ha.1 rfl rfl rfl (Nat.le_of_ble_eq_true rfl) rfl) rfl (fun r2 m1 => ?_)
  refine ev_istore (ls' := [some (.ref a), some (.int p1), some (.int p2), some (.int p3), some (.int r2), none]) (ea_at dt_X1_add 4 rfl) (ea_lt rfl) rfl ?_
  refine ev_iconst (ea_at dt_X1_add 5 rfl) ic_0 ?_
  refine ev_bipush (ea_at dt_X1_add 6 rfl) bp_99 ?_
  refine ev_iload (ea_at dt_X1_add 7 rfl) rfl ?_
  refine ev_iload_n (ea_at dt_X1_add 8 rfl) rfl ?_
  refine ev_iadd (ea_at dt_X1_add 9 rfl) ?_
  refine ev_mmin (ea_at dt_X1_add 10 rfl) ml_X1_44 ea_maW_min ⟨by decide, Nat.le_of_ble_eq_true rfl, by decide, by decide⟩ ?_
  refine ev_i (fun x3 => ?_)
  refine ev_mmax (ea_at dt_X1_add 11 rfl) ml_X1_49 ea_maW_max ⟨by decide, Nat.le_of_ble_eq_true rfl, by decide, by decide⟩ ?_
  refine ev_i (fun x4 => ?_)
  refine ev_istore (ls' := [some (.ref a), some (.int p1), some (.int p2), some (.int p3), some (.int r2), some (.int x4)]) (ea_at dt_X1_add 12 rfl) (ea_lt rfl) rfl ?_
  refine ev_aload_n (ea_at dt_X1_add 13 rfl) rfl ?_
  refine ev_getR (ea_at dt_X1_add 14 rfl) fl_X1_18 ha.1 rfl ?_
  refine ev_iload_n (ea_at dt_X1_add 15 rfl) rfl ?_
  refine ev_bipush (ea_at dt_X1_add 16 rfl) bp_6 ?_
  refine ev_imul (ea_at dt_X1_add 17 rfl) ?_
  refine ev_iload_n (ea_at dt_X1_add 18 rfl) rfl ?_
  refine ev_iadd (ea_at dt_X1_add 19 rfl) ?_
  refine ev_i (fun x5 => ?_)
  refine ev_iload (ea_at dt_X1_add 20 rfl) rfl ?_
  refine ev_iastore (ea_at dt_X1_add 21 rfl) ha.2.1 (by decide) ?_
  refine ev_m (fun m6 => ?_)
  refine ev_iload (ea_at dt_X1_add 22 rfl) rfl ?_
  refine ev_iload (ea_at dt_X1_add 23 rfl) rfl ?_
  refine ev_isub (ea_at dt_X1_add 24 rfl) ?_
  exact ev_iret (ea_at dt_X1_add 25 rfl) rfl ⟨by decide, by decide⟩ (fun h => hR _ h)
def F_X0_release : ea_F := (ea_rm 8 0 0, cX0_release, RX0, none, 3, [], 0, 0)
def D_X0_release : List (Nat × Instr × Nat) := [(0, .aload_n 1, 1), (1, .iload_n 2, 1), (2, .putfield 84, 3), (5, .aload_n 1, 1), (6, .aload_n 0, 1), (7, .getfield 31, 3), (10, .getfield 53, 3), (13, .putfield 87, 3), (16, .aload_n 1, 1), (17, .aload_n 0, 1), (18, .getfield 31, 3), (21, .getfield 90, 3), (24, .putfield 93, 3), (27, .aload_n 1, 1), (28, .iconst 1, 1), (29, .putfield 96, 3), (32, .aload_n 1, 1), (33, .iconst 0, 1), (34, .putfield 100, 3), (37, .aload_n 1, 1), (38, .iconst 0, 1), (39, .putfield 103, 3), (42, .return_, 1)]
theorem dt_X0_release : ∀ q ∈ D_X0_release, decode cX0_release q.1 = .ok q.2 := by decide +kernel
theorem mv_X0_release : ea_MV yX0_release (F_X0_release) 2 := ⟨⟨List.mem_append_right _ (List.mem_of_getElem? (i := 9) (by decide +kernel)), List.mem_append_right _ (List.mem_of_getElem? (i := 1113) (by decide +kernel)), ⟨by decide, by decide⟩, by decide +kernel⟩, List.mem_append_right _ (List.mem_of_getElem? (i := 1111) (by decide +kernel)), List.mem_append_right _ (List.mem_of_getElem? (i := 1112) (by decide +kernel))⟩
def f_X0_release (p1 : Nat) (p2 : Int32) (m : ea_M) : Option (Int32 × ea_M) :=
  ea_bd (ea_st m p1 0 p2) fun m1 =>
  ea_bd (m1 2 1) fun x2 =>
  ea_bd (ea_st m1 p1 1 x2) fun m3 =>
  ea_bd (m3 2 0) fun x4 =>
  ea_bd (ea_st m3 p1 2 x4) fun m5 =>
  ea_bd (ea_st m5 p1 3 1) fun m6 =>
  ea_bd (ea_st m6 p1 4 0) fun m7 =>
  ea_bd (ea_st m7 p1 5 0) fun m8 =>
  some (0, m8)
set_option maxHeartbeats 300000 in
theorem ok_X0_release (G : ea_G) (p1 : Nat) (p2 : Int32) (m : ea_M) (hp1 : ea_isFeather p1) (rZ : Int32) (mZ : ea_M) (hZ : f_X0_release p1 p2 m = some (rZ, mZ)) : ea_Met G yX0_release F_X0_release [.ref 73, .ref p1, .int p2] m (0, rZ, mZ) := by
  refine ea_met (F := F_X0_release) (by decide +kernel) rfl rfl (Nat.le_of_ble_eq_true rfl) (by simp only [List.mem_cons, List.not_mem_nil, or_false]; intro v hv; rcases hv with rfl | rfl | rfl <;> rfl) ((?_ : ea_E G F_X0_release (0, rZ, mZ) 0 [some (.ref 73), some (.ref p1), some (.int p2)] [] m 0 0 (f_X0_release p1 p2 m) (fun t => t = (rZ, mZ))) (rZ, mZ) hZ rfl)
  have hR : ∀ t : Int32 × ea_M, t = (rZ, mZ) → ((0, rZ, mZ) : ea_O) = (0, t) := fun t h => by rw [h]
  unfold f_X0_release
  refine ev_aload_n (ea_at dt_X0_release 0 rfl) rfl ?_
  refine ev_iload_n (ea_at dt_X0_release 1 rfl) rfl ?_
  refine ev_putI (ea_at dt_X0_release 2 rfl) fl_X0_84 fp_5_0 hp1 rfl ?_
  refine ev_m (fun m1 => ?_)
  refine ev_aload_n (ea_at dt_X0_release 3 rfl) rfl ?_
  refine ev_aload_n (ea_at dt_X0_release 4 rfl) rfl ?_
  refine ev_getR (ea_at dt_X0_release 5 rfl) fl_X0_31 sh_73 rfl ?_
  refine ev_getI (ea_at dt_X0_release 6 rfl) fl_X0_53 sh_2 rfl ?_
  refine ev_i (fun x2 => ?_)
  refine ev_putI (ea_at dt_X0_release 7 rfl) fl_X0_87 fp_5_1 hp1 rfl ?_
  refine ev_m (fun m3 => ?_)
  refine ev_aload_n (ea_at dt_X0_release 8 rfl) rfl ?_
  refine ev_aload_n (ea_at dt_X0_release 9 rfl) rfl ?_
  refine ev_getR (ea_at dt_X0_release 10 rfl) fl_X0_31 sh_73 rfl ?_
  refine ev_getI (ea_at dt_X0_release 11 rfl) fl_X0_90 sh_2 rfl ?_
  refine ev_i (fun x4 => ?_)
  refine ev_putI (ea_at dt_X0_release 12 rfl) fl_X0_93 fp_5_2 hp1 rfl ?_
  refine ev_m (fun m5 => ?_)
  refine ev_aload_n (ea_at dt_X0_release 13 rfl) rfl ?_
  refine ev_iconst (ea_at dt_X0_release 14 rfl) ic_1 ?_
  refine ev_putZ (by decide) (ea_at dt_X0_release 15 rfl) fl_X0_96 fp_5_3 hp1 rfl ?_
  refine ev_m (fun m6 => ?_)
  refine ev_aload_n (ea_at dt_X0_release 16 rfl) rfl ?_
  refine ev_iconst (ea_at dt_X0_release 17 rfl) ic_0 ?_
  refine ev_putI (ea_at dt_X0_release 18 rfl) fl_X0_100 fp_5_4 hp1 rfl ?_
  refine ev_m (fun m7 => ?_)
  refine ev_aload_n (ea_at dt_X0_release 19 rfl) rfl ?_
  refine ev_iconst (ea_at dt_X0_release 20 rfl) ic_0 ?_
  refine ev_putI (ea_at dt_X0_release 21 rfl) fl_X0_103 fp_5_5 hp1 rfl ?_
  refine ev_m (fun m8 => ?_)
  exact ev_vret (ea_at dt_X0_release 22 rfl) rfl ⟨by decide, by decide⟩ (fun h => ⟨0, hR _ h⟩)
def F_X0_gust : ea_F := (ea_rm 8 0 0, cX0_gust, RX0, some .int, 1, [], 0, 0)
def D_X0_gust : List (Nat × Instr × Nat) := [(0, .aload_n 0, 1), (1, .ldc 121, 2), (3, .aload_n 0, 1), (4, .getfield 28, 3), (7, .imul, 1), (8, .sipush 12345, 3), (11, .iadd, 1), (12, .putfield 28, 3), (15, .aload_n 0, 1), (16, .getfield 28, 3), (19, .bipush 16, 2), (21, .iushr, 1), (22, .sipush 32767, 3), (25, .iand, 1), (26, .iconst 3, 1), (27, .irem, 1), (28, .iconst 1, 1), (29, .isub, 1), (30, .ireturn, 1)]
theorem dt_X0_gust : ∀ q ∈ D_X0_gust, decode cX0_gust q.1 = .ok q.2 := by decide +kernel
theorem mv_X0_gust : ea_MV yX0_gust (F_X0_gust) 0 := ⟨⟨List.mem_append_right _ (List.mem_of_getElem? (i := 9) (by decide +kernel)), List.mem_append_right _ (List.mem_of_getElem? (i := 1117) (by decide +kernel)), ⟨by decide, by decide⟩, by decide +kernel⟩, List.mem_append_right _ (List.mem_of_getElem? (i := 1116) (by decide +kernel)), List.mem_append_left _ (List.mem_of_getElem? (i := 32) (by decide +kernel))⟩
def f_X0_gust (m : ea_M) : Option (Int32 × ea_M) :=
  ea_bd (m 73 6) fun x1 =>
  ea_bd ((1103515245 * x1) + 12345) fun x2 =>
  ea_bd (ea_st m 73 6 x2) fun m3 =>
  ea_bd (m3 73 6) fun x4 =>
  ea_bd (((Int32.toUInt32 x4 >>> (Int32.toUInt32 16 &&& Int32.toUInt32 31)).toInt32) &&& 32767) fun x5 =>
  ea_bd (x5 - x5 / 3 * 3) fun x6 =>
  some (x6 - 1, m3)
set_option maxHeartbeats 300000 in
theorem ok_X0_gust (G : ea_G) (m : ea_M)  (rZ : Int32) (mZ : ea_M) (hZ : f_X0_gust m = some (rZ, mZ)) : ea_Met G yX0_gust F_X0_gust [.ref 73] m (0, rZ, mZ) := by
  refine ea_met (F := F_X0_gust) (by decide +kernel) rfl rfl (Nat.le_of_ble_eq_true rfl) (by simp only [List.mem_cons, List.not_mem_nil, or_false]; intro v hv; rcases hv with rfl <;> rfl) ((?_ : ea_E G F_X0_gust (0, rZ, mZ) 0 [some (.ref 73)] [] m 0 0 (f_X0_gust m) (fun t => t = (rZ, mZ))) (rZ, mZ) hZ rfl)
  have hR : ∀ t : Int32 × ea_M, t = (rZ, mZ) → ((0, rZ, mZ) : ea_O) = (0, t) := fun t h => by rw [h]
  unfold f_X0_gust
  refine ev_aload_n (ea_at dt_X0_gust 0 rfl) rfl ?_
  refine ev_ldc (ea_at dt_X0_gust 1 rfl) ki_X0_121 ?_
  refine ev_aload_n (ea_at dt_X0_gust 2 rfl) rfl ?_
  refine ev_getI (ea_at dt_X0_gust 3 rfl) fl_X0_28 sh_73 rfl ?_
  refine ev_i (fun x1 => ?_)
  refine ev_imul (ea_at dt_X0_gust 4 rfl) ?_
  refine ev_sipush (ea_at dt_X0_gust 5 rfl) sp_12345 ?_
  refine ev_iadd (ea_at dt_X0_gust 6 rfl) ?_
  refine ev_i (fun x2 => ?_)
  refine ev_putI (ea_at dt_X0_gust 7 rfl) fl_X0_28 fp_0_6 sh_73 rfl ?_
  refine ev_m (fun m3 => ?_)
  refine ev_aload_n (ea_at dt_X0_gust 8 rfl) rfl ?_
  refine ev_getI (ea_at dt_X0_gust 9 rfl) fl_X0_28 sh_73 rfl ?_
  refine ev_i (fun x4 => ?_)
  refine ev_bipush (ea_at dt_X0_gust 10 rfl) bp_16 ?_
  refine ev_iushr (ea_at dt_X0_gust 11 rfl) ?_
  refine ev_sipush (ea_at dt_X0_gust 12 rfl) sp_32767 ?_
  refine ev_iand (ea_at dt_X0_gust 13 rfl) ?_
  refine ev_i (fun x5 => ?_)
  refine ev_iconst (ea_at dt_X0_gust 14 rfl) ic_3 ?_
  refine ev_irem (ea_at dt_X0_gust 15 rfl) (by decide) ?_
  refine ev_i (fun x6 => ?_)
  refine ev_iconst (ea_at dt_X0_gust 16 rfl) ic_1 ?_
  refine ev_isub (ea_at dt_X0_gust 17 rfl) ?_
  exact ev_iret (ea_at dt_X0_gust 18 rfl) rfl ⟨by decide, by decide⟩ (fun h => hR _ h)
